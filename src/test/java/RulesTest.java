import java.io.IOException;
import java.lang.reflect.Constructor;
import java.lang.reflect.Field;
import java.lang.reflect.Method;
import java.lang.reflect.Modifier;
import java.nio.file.Files;
import java.nio.file.Path;
import java.util.ArrayList;
import java.util.List;
import java.util.Set;
import java.util.TreeSet;

/** What of ../shared/LANGUAGE.md can be looked at from outside: the face, words, lengths, counts. */
public final class RulesTest {
    private static final Check CHECK = new Check("RulesTest");
    private static final Path SOURCE = Path.of("src/main/java/StepCalls.java");
    private static final Path DOCUMENT = Path.of("../shared/DOC.md");

    public static void main(String[] args) throws IOException {
        face();
        members();
        words();
        methodLengths();
        CHECK.finish();
    }

    /** Each line of the document's face stands in the program, and no other public member. */
    private static void face() throws IOException {
        Set<String> due = new TreeSet<>();
        for (String line : Files.readAllLines(DOCUMENT)) {
            if (line.startsWith("    public ")) {
                due.add(line.trim().replaceAll(";$", ""));
            }
        }
        Set<String> found = new TreeSet<>();
        for (String line : Files.readAllLines(SOURCE)) {
            if (line.startsWith("    public ")) {
                found.add(line.trim().replaceAll("[;{ ]*$", ""));
            }
        }
        CHECK.due("1: the face: " + found + ", due is " + due, found.equals(due) ? 1 : 0, 1);
        CHECK.due("1: members of the face", due.size(), 44);
    }

    private static void members() {
        Set<String> publicNames = new TreeSet<>();
        for (Method m : StepCalls.class.getDeclaredMethods()) {
            if (Modifier.isPublic(m.getModifiers())) {
                publicNames.add(m.getName());
            } else {
                CHECK.due("1: " + m + " is private", Modifier.isPrivate(m.getModifiers()) ? 1 : 0, 1);
            }
        }
        for (Field f : StepCalls.class.getDeclaredFields()) {
            CHECK.due("1: " + f + " is public or private", f.getModifiers() & (Modifier.PUBLIC | Modifier.PRIVATE), Modifier.isPublic(f.getModifiers()) ? 1 : 2);
        }
        for (Constructor<?> c : StepCalls.class.getDeclaredConstructors()) {
            CHECK.due("1: " + c, c.getParameterCount(), 0);
        }
        List<Class<?>> all = new ArrayList<>(List.of(StepCalls.class.getDeclaredClasses()));
        CHECK.due("11: at most 12 classes", all.size() < 12 ? 1 : 0, 1);
        all.add(StepCalls.class);
        for (Class<?> c : all) {
            CHECK.due("2: " + c + " is final", Modifier.isFinal(c.getModifiers()) ? 1 : 0, 1);
            int fields = 0;
            for (Field f : c.getDeclaredFields()) {
                fields += Modifier.isStatic(f.getModifiers()) ? 0 : 1;
                CHECK.due("5: " + f + " is no static state", Modifier.isStatic(f.getModifiers()) && !Modifier.isFinal(f.getModifiers()) ? 1 : 0, 0);
            }
            CHECK.due("11: fields of " + c, fields <= 20 ? 1 : 0, 1);
            for (Method m : c.getDeclaredMethods()) {
                CHECK.due("11: parameters of " + m, m.getParameterCount() <= 7 ? 1 : 0, 1);
                boolean inside = c != StepCalls.class || Modifier.isPrivate(m.getModifiers());
                CHECK.due("1: " + m + " bears the name of a public one", inside && publicNames.contains(m.getName()) ? 1 : 0, 0);
            }
        }
    }

    private static List<String> bareLines() throws IOException {
        List<String> bare = new ArrayList<>();
        boolean inComment = false;
        for (String line : Files.readAllLines(SOURCE)) {
            boolean begins = line.trim().startsWith("/**");
            inComment |= begins;
            bare.add(inComment ? "" : line.replaceAll("//.*", "").replaceAll("\"[^\"]*\"", "\"\""));
            if (line.contains("*/")) {
                inComment = false;
            }
        }
        return bare;
    }

    private static void words() throws IOException {
        String[] none = {"throw", "throws", "try", "catch", "finally", "synchronized", "assert", "package", "protected", "native", "volatile",
            "transient", "Object", "Thread", "Random", "Exact\\w*", "\\w+Exact"};
        String[] rest = {"import (?!java\\.util\\.(ArrayList|List|Arrays|Iterator);)", "System(?!\\.arraycopy\\()"};
        int n = 0;
        for (String line : bareLines()) {
            n++;
            for (String word : none) {
                CHECK.due("6: line " + n + " has " + word, line.matches(".*\\b" + word + "\\b.*") ? 1 : 0, 0);
            }
            for (String word : rest) {
                CHECK.due("4: line " + n + " has what is like " + word, line.matches(".*\\b" + word + ".*") ? 1 : 0, 0);
            }
            CHECK.due("2: line " + n + " has an arrow, a reference, a sign that has no place", line.matches(".*(->|::|@).*") ? 1 : 0, 0);
            CHECK.due("4: line " + n + " has signs 32 to 126 alone", line.matches("[ -~]*") ? 1 : 0, 1);
        }
    }

    private static void methodLengths() throws IOException {
        String head = "";
        int length = 0;
        for (String line : bareLines()) {
            if (line.matches(" {4}( {4})?[a-z].*\\) \\{")) {
                head = line;
                length = 0;
            }
            length++;
            if (!head.isEmpty() && line.matches(" {4}( {4})?\\}")) {
                CHECK.due("11: length of " + head.trim(), length <= 60 ? 1 : 0, 1);
                head = "";
            }
        }
    }
}
