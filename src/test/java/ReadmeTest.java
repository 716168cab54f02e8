import java.io.IOException;
import java.lang.reflect.Method;
import java.lang.reflect.Modifier;
import java.net.URL;
import java.net.URLClassLoader;
import java.nio.file.Files;
import java.nio.file.Path;
import java.util.Comparator;
import java.util.List;
import java.util.Set;
import java.util.TreeSet;
import java.util.regex.Matcher;
import java.util.regex.Pattern;
import java.util.stream.Stream;
import javax.tools.ToolProvider;

/** README.md: its examples are compiled, and answer as it tells; each call, each test, each answer below 0 stands in it. */
public final class ReadmeTest {
    private static final Check CHECK = new Check("ReadmeTest");
    private static final Path README = Path.of("README.md"), TESTS = Path.of("src/test/java");
    private static final Pattern STATEMENT = Pattern.compile("(.*);\\s+// (-?\\d+)\\b.*");
    private static final String RUNS = "ReadmeRuns";

    public static void main(String[] args) throws IOException, ReflectiveOperationException {
        List<String> lines = Files.readAllLines(README);
        examples(lines);
        calls(lines);
        tests(lines);
        answers(lines);
        CHECK.finish();
    }

    /** For the class that is made of the examples. */
    public static void due(String what, long got, long want) {
        CHECK.due("the example " + what, got, want);
    }

    private static void examples(List<String> lines) throws IOException, ReflectiveOperationException {
        Path directory = Files.createTempDirectory("readme");
        try {
            Path file = directory.resolve(RUNS + ".java");
            Files.writeString(file, classOf(lines));
            String classes = System.getProperty("java.class.path");
            int failed = ToolProvider.getSystemJavaCompiler().run(null, null, null, "-cp", classes, "-d", directory.toString(), file.toString());
            CHECK.due("the examples are compiled", failed, 0);
            if (failed == 0) {
                run(directory);
            }
        } finally {
            remove(directory);
        }
    }

    private static void run(Path directory) throws IOException, ReflectiveOperationException {
        try (URLClassLoader loader = new URLClassLoader(new URL[] {directory.toUri().toURL()})) {
            loader.loadClass(RUNS).getMethod("all").invoke(null);
        }
    }

    private static void remove(Path directory) throws IOException {
        try (Stream<Path> all = Files.walk(directory)) {
            for (Path path : all.sorted(Comparator.reverseOrder()).toList()) {
                Files.delete(path);
            }
        }
    }

    /** The first block is a method that the others share; each of the others becomes a method. */
    private static String classOf(List<String> lines) {
        StringBuilder members = new StringBuilder();
        StringBuilder all = new StringBuilder("public static void all() {\n");
        boolean inside = false;
        int blocks = 0;
        int told = 0;
        for (String line : lines) {
            if (line.equals("```java")) {
                inside = true;
                members.append(blocks == 0 ? "" : "static void block" + blocks + "() {\n");
                all.append(blocks == 0 ? "" : "block" + blocks + "();\n");
            } else if (inside && line.equals("```")) {
                inside = false;
                members.append(blocks == 0 ? "" : "}\n");
                blocks++;
            } else if (inside) {
                Matcher statement = STATEMENT.matcher(line);
                boolean tells = statement.matches();
                told += tells ? 1 : 0;
                members.append(tells ? dueOf(statement.group(1), statement.group(2)) : line).append('\n');
            }
        }
        CHECK.due("blocks of examples", blocks >= 6 ? 1 : 0, 1);
        CHECK.due("lines that tell an answer", told > 40 ? 1 : 0, 1);
        return "public final class " + RUNS + " {\n" + members + all + "}\n}\n";
    }

    private static String dueOf(String call, String answer) {
        return "ReadmeTest.due(\"" + call.replace("\"", "\\\"") + "\", " + call + ", " + answer + ");";
    }

    /** Each public method stands in one of the tables, with as many numbers as it takes, and nothing else does. */
    private static void calls(List<String> lines) {
        Set<String> told = new TreeSet<>();
        Pattern row = Pattern.compile("\\| `(\\w+)\\((.*?)\\)` \\| .*");
        for (String line : lines) {
            Matcher call = row.matcher(line);
            if (call.matches() && !call.group(1).equals("fault")) {
                int numbers = call.group(2).isEmpty() ? 0 : call.group(2).split(",").length;
                CHECK.due(call.group(1) + " is told once", told.add(call.group(1) + " " + numbers) ? 1 : 0, 1);
            }
        }
        Set<String> due = new TreeSet<>();
        for (Method m : StepCalls.class.getDeclaredMethods()) {
            if (Modifier.isPublic(m.getModifiers()) && !m.getName().equals("fault")) {
                due.add(m.getName() + " " + m.getParameterCount());
            }
        }
        CHECK.same("the calls that README.md tells", told.toString(), due.toString());
        CHECK.due("fault() heads its own table, and stands in one", rows(lines, "\\| `fault\\(\\)` \\| .*"), 2);
    }

    private static int rows(List<String> lines, String row) {
        int found = 0;
        for (String line : lines) {
            found += line.matches(row) ? 1 : 0;
        }
        return found;
    }

    private static void tests(List<String> lines) throws IOException {
        Set<String> told = new TreeSet<>();
        for (String line : lines) {
            Matcher names = Pattern.compile("\\| ((\\w+Test)(, \\w+Test)*) \\| .*").matcher(line);
            if (names.matches()) {
                told.addAll(List.of(names.group(1).split(", ")));
            }
        }
        Set<String> due = new TreeSet<>();
        try (Stream<Path> all = Files.list(TESTS)) {
            for (Path path : all.toList()) {
                String name = path.getFileName().toString();
                if (name.endsWith("Test.java")) {
                    due.add(name.replace(".java", ""));
                }
            }
        }
        CHECK.same("the tests that README.md tells", told.toString(), due.toString());
    }

    private static void answers(List<String> lines) {
        CHECK.due("BAD", rows(lines, "\\| `BAD` " + StepCalls.BAD + " \\| .*"), 1);
        CHECK.due("STATE", rows(lines, "\\| `STATE` " + StepCalls.STATE + " \\| .*"), 1);
        CHECK.due("FULL", rows(lines, "\\| `FULL` " + StepCalls.FULL + " \\| .*"), 1);
        CHECK.due("NONE", rows(lines, "\\| `NONE` " + StepCalls.NONE + " \\| .*"), 1);
        for (int fate = 0; fate <= 6; fate++) {
            CHECK.due("FATE, FAULT " + fate, rows(lines, "\\| " + fate + " \\| .*"), 2);
        }
    }
}
