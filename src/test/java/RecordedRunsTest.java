import java.io.IOException;
import java.nio.file.Files;
import java.nio.file.Path;

/** Runs of calls with the answers of the model in tools/fuzz, which shares no code with the class. */
public final class RecordedRunsTest {
    public static void main(String[] args) throws IOException {
        Check check = new Check("recorded runs");
        SealedProcesses x = null;
        int run = 0;
        for (String line : Files.readAllLines(Path.of("src/test/data/runs.txt"))) {
            String[] sides = line.split(" = ");
            String[] words = sides[0].split(" ");
            int[] a = new int[words.length - 1];
            for (int i = 0; i < a.length; i++) {
                a[i] = Integer.parseInt(words[i + 1]);
            }
            if (words[0].equals("new")) {
                x = new SealedProcesses();
                run++;
            } else {
                check.due("run " + run + ": " + sides[0], answer(x, words[0], a), Long.parseLong(sides[1]));
            }
        }
        check.end();
    }

    private static long answer(SealedProcesses x, String name, int[] a) {
        switch (name) {
            case "feed": return x.feed(a[0], a[1], a[2], a[3], a[4]);
            case "load": return x.load(a[0]);
            case "fault": return x.fault(a[0]);
            case "discard": return x.discard(a[0]) ? 1 : 0;
            case "module": return x.module(a[0], a[1], a[2]);
            case "typeAt": return x.typeAt(a[0], a[1], a[2], a[3], a[4]);
            case "boot": return x.boot(a[0]);
            case "run": return x.run(a[0]);
            case "about": return x.about(a[0]);
            case "process": return x.process(a[0], a[1]);
            case "value": return x.value(a[0], a[1], a[2]);
            case "block": return x.block(a[0], a[1]);
            case "channel": return x.channel(a[0], a[1], a[2]);
            case "output": return x.output(a[0], a[1]);
            default: throw new IllegalArgumentException(name);
        }
    }
}
