import java.io.IOException;
import java.lang.reflect.Method;
import java.lang.reflect.Modifier;
import java.net.URL;
import java.net.URLClassLoader;
import java.nio.file.Files;
import java.nio.file.Path;
import java.util.ArrayList;
import java.util.List;
import java.util.Set;
import java.util.TreeSet;
import java.util.regex.Matcher;
import java.util.regex.Pattern;
import java.util.stream.Stream;
import javax.tools.ToolProvider;

/** All promises: the calls that README.md shows, compiled as they stand there, with the answers that it tells. */
public final class ReadmeTest {
    private static final Pattern BLOCK = Pattern.compile("(?s)```java\n(.*?)```");
    private static final Pattern CALL = Pattern.compile("(int \\w+ = )?(x\\.(\\w+)\\(.*\\)); *// (-?\\d+|NONE|BAD|STATE|FULL)\\b.*");
    private static final Pattern UNTOLD = Pattern.compile("NoteCounter x = new NoteCounter\\(\\);|type\\(x, \"[^\"]*\"\\);");
    private static final String FRAME = """
        public final class Shown {
            public static final java.util.List<Object[]> ANSWERS = new java.util.ArrayList<>();
            private static int told(String call, int want, int got) {
                ANSWERS.add(new Object[] {call, want, got});
                return got;
            }
        """;

    private static final Due due = new Due();
    private static final Set<String> shown = new TreeSet<>();
    private static int tellings = 0;

    public static void main(String[] args) throws Exception {
        String readme = Files.readString(Path.of("README.md"));
        answers(run(programOf(readme)));
        wholeFace();
        everyTestNamed(readme);
        due.end();
    }

    /** Each block on its own, as a reader would take it. */
    private static String programOf(String readme) {
        StringBuilder members = new StringBuilder(FRAME);
        StringBuilder calls = new StringBuilder("public static void run() {\n");
        Matcher block = BLOCK.matcher(readme);
        while (block.find()) {
            if (block.group(1).startsWith("static ")) {
                members.append(block.group(1));
            } else {
                calls.append("{\n");
                block.group(1).lines().forEach(line -> calls.append(checked(line)).append('\n'));
                calls.append("}\n");
            }
        }
        return members.append(calls).append("}\n}\n").toString();
    }

    private static String checked(String line) {
        Matcher call = CALL.matcher(line);
        if (!call.matches()) {
            due.holds("README.md tells no answer of: " + line, UNTOLD.matcher(line).matches());
            return line;
        }
        shown.add(call.group(3));
        tellings++;
        String keeps = call.group(1) == null ? "" : call.group(1);
        String answer = call.group(4).matches("[A-Z]+") ? "NoteCounter." + call.group(4) : call.group(4);
        return keeps + "told(\"" + call.group(2).replace("\"", "\\\"") + "\", " + answer + ", " + call.group(2) + ");";
    }

    private static List<Object[]> run(String program) throws Exception {
        Path folder = Files.createTempDirectory("readme");
        try (URLClassLoader loader = new URLClassLoader(new URL[] {folder.toUri().toURL()})) {
            Path source = Files.writeString(folder.resolve("Shown.java"), program);
            int failed = ToolProvider.getSystemJavaCompiler().run(null, null, null,
                "-cp", System.getProperty("java.class.path"), "-d", folder.toString(), source.toString());
            due.is("javac of the calls in README.md", 0, failed);
            return failed == 0 ? answersOf(loader.loadClass("Shown")) : List.of();
        } finally {
            remove(folder);
        }
    }

    private static List<Object[]> answersOf(Class<?> program) throws ReflectiveOperationException {
        program.getMethod("run").invoke(null);
        List<Object[]> answers = new ArrayList<>();
        for (Object row : (List<?>) program.getField("ANSWERS").get(null)) {
            answers.add((Object[]) row);
        }
        return answers;
    }

    private static void remove(Path folder) throws IOException {
        try (Stream<Path> files = Files.list(folder)) {
            for (Path file : files.toList()) {
                Files.delete(file);
            }
        }
        Files.delete(folder);
    }

    private static void answers(List<Object[]> rows) {
        due.is("calls of README.md that were made", tellings, rows.size());
        for (Object[] row : rows) {
            due.is("README.md: " + row[0], (int) row[1], (int) row[2]);
        }
    }

    private static void wholeFace() {
        for (Method method : NoteCounter.class.getDeclaredMethods()) {
            if (Modifier.isPublic(method.getModifiers())) {
                due.holds("README.md shows " + method.getName(), shown.contains(method.getName()));
            }
        }
    }

    private static void everyTestNamed(String readme) throws IOException {
        due.holds("README.md tells how to run the tests", readme.contains("bash .ci/run"));
        try (Stream<Path> files = Files.list(Path.of("src/test/java"))) {
            for (Path file : files.toList()) {
                String name = file.getFileName().toString().replace(".java", "");
                due.holds("README.md names " + name, !name.endsWith("Test") || readme.contains("| " + name + " |"));
            }
        }
    }
}
