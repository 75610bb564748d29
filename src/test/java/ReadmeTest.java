import java.io.IOException;
import java.lang.reflect.Method;
import java.lang.reflect.Modifier;
import java.nio.file.Files;
import java.nio.file.Path;
import java.util.HashSet;
import java.util.Set;
import java.util.regex.Matcher;
import java.util.regex.Pattern;

/** Runs the calls of README.md in their order, and looks whether their answers are so. */
public final class ReadmeTest {
    private static final Pattern MADE = Pattern.compile("SealedProcesses x = new SealedProcesses\\(\\);");
    private static final Pattern CALL = Pattern.compile("x\\.(\\w+)\\(([^()]*)\\); +// ([\\w.-]+)(?:: .*)?");
    private static final Check CHECK = new Check("README");
    private static final Set<String> CALLED = new HashSet<>();

    public static void main(String[] args) throws IOException, ReflectiveOperationException {
        SealedProcesses x = null;
        boolean inCode = false;
        for (String line : Files.readAllLines(Path.of("README.md"))) {
            if (line.startsWith("```")) {
                inCode = line.equals("```java");
            } else if (inCode && MADE.matcher(line).matches()) {
                x = new SealedProcesses();
            } else if (inCode) {
                call(x, line);
            }
        }
        for (Method method : SealedProcesses.class.getDeclaredMethods()) {
            if (Modifier.isPublic(method.getModifiers())) {
                CHECK.due("README calls " + method.getName(), CALLED.contains(method.getName()), true);
            }
        }
        CHECK.end();
    }

    private static void call(SealedProcesses x, String line) throws ReflectiveOperationException {
        Matcher matcher = CALL.matcher(line);
        boolean understood = matcher.matches();
        CHECK.due("a call with its answer: " + line, understood && x != null, true);
        if (!understood || x == null) {
            return;
        }
        String[] words = matcher.group(2).split(", ");
        Object[] given = new Object[words.length];
        Class<?>[] types = new Class<?>[words.length];
        for (int i = 0; i < words.length; i++) {
            given[i] = Long.decode(words[i]).intValue();
            types[i] = int.class;
        }
        CALLED.add(matcher.group(1));
        Object answer = SealedProcesses.class.getMethod(matcher.group(1), types).invoke(x, given);
        CHECK.due(line, number(answer.toString()), number(matcher.group(3)));
    }

    private static long number(String word) {
        switch (word) {
            case "true": return 1;
            case "false": return 0;
            case "Integer.MIN_VALUE": return Integer.MIN_VALUE;
            default: return Long.parseLong(word);
        }
    }
}
