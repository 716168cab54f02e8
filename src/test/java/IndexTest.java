import java.io.IOException;
import java.nio.file.Files;
import java.nio.file.Path;
import java.util.Set;
import java.util.TreeSet;
import java.util.regex.Matcher;
import java.util.regex.Pattern;

/** src/test/EDGES.md: each test that it names stands and is called, each promise is named. */
public final class IndexTest {
    private static final Check CHECK = new Check("IndexTest");
    private static final Path INDEX = Path.of("src/test/EDGES.md"), TESTS = Path.of("src/test/java");

    public static void main(String[] args) throws IOException {
        Set<Integer> promises = new TreeSet<>();
        for (String line : Files.readAllLines(INDEX)) {
            Matcher number = Pattern.compile("^\\| (\\d+) \\|").matcher(line);
            if (number.find()) {
                promises.add(Integer.valueOf(number.group(1)));
            }
            Matcher test = Pattern.compile("`(\\w+Test)\\.(\\w+)`").matcher(line);
            boolean named = false;
            while (test.find()) {
                named = true;
                stands(test.group(1), test.group(2));
            }
            CHECK.due("a test is named by: " + line, line.matches("\\| (terms|\\d+) \\|.*") && !named ? 1 : 0, 0);
        }
        for (int promise = 1; promise <= 43; promise++) {
            CHECK.due("promise " + promise + " is named", promises.contains(promise) ? 1 : 0, 1);
        }
        CHECK.finish();
    }

    private static void stands(String file, String method) throws IOException {
        Path path = TESTS.resolve(file + ".java");
        String text = Files.exists(path) ? Files.readString(path) : "";
        boolean told = Pattern.compile("void " + method + "\\(").matcher(text).find();
        boolean called = Pattern.compile("(^|[ .])" + method + "\\(\\);", Pattern.MULTILINE).matcher(text).find();
        CHECK.due(file + "." + method + " stands", told ? 1 : 0, 1);
        CHECK.due(file + "." + method + " is called", called ? 1 : 0, 1);
    }
}
