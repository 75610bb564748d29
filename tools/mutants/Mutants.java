import java.io.File;
import java.io.IOException;
import java.io.OutputStream;
import java.io.PrintStream;
import java.net.URI;
import java.nio.file.Files;
import java.nio.file.Path;
import java.util.ArrayList;
import java.util.Collections;
import java.util.Comparator;
import java.util.LinkedHashMap;
import java.util.List;
import java.util.Map;
import java.util.concurrent.ExecutorService;
import java.util.concurrent.Executors;
import java.util.concurrent.TimeUnit;
import java.util.regex.Matcher;
import java.util.regex.Pattern;
import java.util.stream.Stream;
import javax.tools.DiagnosticCollector;
import javax.tools.JavaCompiler;
import javax.tools.JavaFileObject;
import javax.tools.SimpleJavaFileObject;
import javax.tools.StandardJavaFileManager;
import javax.tools.ToolProvider;

/**
 * Breaks the class in one place at a time, runs all tests on each such mutant, and tells those that no
 * test finds. Started from the project's directory: java tools/mutants/Mutants.java [FIRST-LINE LAST-LINE]
 */
public final class Mutants {
    private static final Path MAIN = Path.of("src/main/java/SealedProcesses.java");
    private static final int SECONDS = 60;

    private static final class Mutant {
        final int from;
        final int to;
        final String text;

        Mutant(int from, int to, String text) {
            this.from = from;
            this.to = to;
            this.text = text;
        }
    }

    private final String source;
    private final String bare;
    private final Map<String, Mutant> mutants = new LinkedHashMap<>();
    private final List<String> survivors = Collections.synchronizedList(new ArrayList<>());

    private Mutants(String source) {
        this.source = source;
        this.bare = withoutComments(source);
    }

    public static void main(String[] args) throws Exception {
        if (args.length > 0 && args[0].equals("-tests")) {
            runTests(args);
            return;
        }
        Mutants all = new Mutants(Files.readString(MAIN));
        all.make();
        int first = args.length > 1 ? Integer.parseInt(args[0]) : 1;
        int last = args.length > 1 ? Integer.parseInt(args[1]) : Integer.MAX_VALUE;
        all.tryAll(first, last);
    }

    /** Comments become blanks, so that places stay the same. */
    private static String withoutComments(String text) {
        Matcher comment = Pattern.compile("/\\*.*?\\*/|//[^\n]*", Pattern.DOTALL).matcher(text);
        return comment.replaceAll(found -> found.group().replaceAll("[^\n]", " "));
    }

    private void make() {
        swap("(?<=\\s)<(?=\\s)", "<=", ">=");
        swap("(?<=\\s)<=(?=\\s)", "<", ">");
        swap("(?<=\\s)>(?=\\s)", ">=", "<=");
        swap("(?<=\\s)>=(?=\\s)", ">", "<");
        swap("==", "!=");
        swap("!=", "==");
        swap("&&", "||");
        swap("\\|\\|", "&&");
        swap("(?<=\\s)\\+(?=\\s)", "-");
        swap("(?<=\\s)-(?=\\s)", "+");
        swap("(?<=\\s)\\*(?=\\s)", "+");
        swap("(?<=\\s)[/%](?=\\s)", "*");
        swap("(?<=\\s)<<(?=\\s)", ">>");
        swap("(?<=\\s)>>(?=\\s)", "<<");
        swap("\\+\\+", "--");
        swap("--", "++");
        swap("\\+=", "-=");
        swap("-=", "+=");
        swap("\\btrue\\b", "false");
        swap("\\bfalse\\b", "true");
        swap("!(?=[\\w(])", "");
        swap("(?<=Math\\.)min", "max");
        swap("(?<=Math\\.)max", "min");
        swap("(?<=return )[^;]+(?=;)", "0", "-1", "1", "true", "false");
        swap("(?m)(?<=^ {8,40})(?!return|private|int|boolean|final)[\\w.]+(?:\\[[^;=]*\\])? (?:[+|-]?)= [^;]*;", ";");
        swap("(?m)(?<=^ {8,40})[\\w.]+\\([^;{}]*\\);", ";");
        swap("(?m)(?<=^ {8,40})(?:break|continue|return);", ";");
        Matcher number = Pattern.compile("(?<![\\w.])\\d+(?![\\w.])").matcher(bare);
        while (number.find()) {
            int n = Integer.parseInt(number.group());
            add(number.start(), number.end(), String.valueOf(n + 1));
            add(number.start(), number.end(), n > 0 ? String.valueOf(n - 1) : "(-1)");
        }
    }

    private void swap(String pattern, String... by) {
        Matcher found = Pattern.compile(pattern).matcher(bare);
        while (found.find()) {
            for (String text : by) {
                add(found.start(), found.end(), text);
            }
        }
    }

    private void add(int from, int to, String text) {
        if (!source.substring(from, to).equals(text)) {
            mutants.put(from + " " + to + " " + text, new Mutant(from, to, text));
        }
    }

    private void tryAll(int first, int last) throws Exception {
        Path work = Files.createTempDirectory("mutants");
        List<String> tests = compileTests(work.resolve("tests"));
        ExecutorService workers = Executors.newFixedThreadPool(Runtime.getRuntime().availableProcessors());
        int count = 0;
        for (Mutant mutant : mutants.values()) {
            int line = lineOf(mutant.from);
            if (line >= first && line <= last) {
                Path into = work.resolve("m" + count);
                count++;
                workers.submit(() -> {
                    tryOne(mutant, line, into, work.resolve("tests"), tests);
                    return null;
                });
            }
        }
        workers.shutdown();
        workers.awaitTermination(1, TimeUnit.DAYS);
        delete(work);
        Collections.sort(survivors);
        survivors.forEach(System.out::println);
        System.out.println(count + " mutants, " + survivors.size() + " that no test finds");
    }

    private void tryOne(Mutant mutant, int line, Path into, Path classes, List<String> tests) throws IOException, InterruptedException {
        String text = source.substring(0, mutant.from) + mutant.text + source.substring(mutant.to);
        Files.createDirectories(into);
        if (compile(text, into)) {
            List<String> command = new ArrayList<>(List.of("java", "-XX:TieredStopAtLevel=1", "-XX:+UseSerialGC", "-Xmx300m",
                "-cp", into + File.pathSeparator + classes, "Mutants", "-tests"));
            command.addAll(tests);
            Process process = new ProcessBuilder(command).redirectErrorStream(true).redirectOutput(into.resolve("told").toFile()).start();
            if (!process.waitFor(SECONDS, TimeUnit.SECONDS)) {
                process.destroyForcibly().waitFor();
            } else if (process.exitValue() == 0) {
                survivors.add(String.format("%5d: %s   [%s -> %s]", line, source.split("\n", -1)[line - 1].trim(),
                    source.substring(mutant.from, mutant.to), mutant.text));
            }
        }
        delete(into);
    }

    private static boolean compile(String text, Path into) throws IOException {
        JavaCompiler compiler = ToolProvider.getSystemJavaCompiler();
        JavaFileObject file = new SimpleJavaFileObject(URI.create("string:///SealedProcesses.java"), JavaFileObject.Kind.SOURCE) {
            @Override
            public CharSequence getCharContent(boolean ignoreErrors) {
                return text;
            }
        };
        try (StandardJavaFileManager files = compiler.getStandardFileManager(null, null, null)) {
            return compiler.getTask(null, files, new DiagnosticCollector<>(), List.of("-d", into.toString(), "-proc:none"), null, List.of(file)).call();
        }
    }

    /** All tests and this class are compiled once, beside the class as it is; then that one is taken away. */
    private static List<String> compileTests(Path into) throws IOException {
        Files.createDirectories(into);
        List<String> arguments = new ArrayList<>(List.of("-d", into.toString(), "-proc:none", MAIN.toString(), "tools/mutants/Mutants.java"));
        List<String> names = new ArrayList<>();
        for (String directory : new String[] {"src/test/java", "src/test/java/support", "../shared/tests"}) {
            try (Stream<Path> files = Files.list(Path.of(directory))) {
                files.filter(file -> file.toString().endsWith(".java")).sorted().forEach(file -> {
                    arguments.add(file.toString());
                    if (!directory.endsWith("support")) {
                        names.add(file.getFileName().toString().replace(".java", ""));
                    }
                });
            }
        }
        if (ToolProvider.getSystemJavaCompiler().run(null, null, null, arguments.toArray(new String[0])) != 0) {
            throw new IOException("the tests do not compile");
        }
        try (Stream<Path> files = Files.list(into)) {
            files.filter(file -> file.getFileName().toString().matches("SealedProcesses(\\$.*)?\\.class")).forEach(file -> file.toFile().delete());
        }
        return names;
    }

    /** In a machine of its own: a test that fails ends it with exit code 1. */
    private static void runTests(String[] args) throws ReflectiveOperationException {
        System.setOut(new PrintStream(OutputStream.nullOutputStream()));
        for (int i = 1; i < args.length; i++) {
            Class.forName(args[i]).getMethod("main", String[].class).invoke(null, (Object) new String[0]);
        }
    }

    private int lineOf(int place) {
        return (int) source.substring(0, place).chars().filter(c -> c == '\n').count() + 1;
    }

    private static void delete(Path directory) throws IOException {
        try (Stream<Path> files = Files.walk(directory)) {
            files.sorted(Comparator.reverseOrder()).forEach(file -> file.toFile().delete());
        }
    }
}
