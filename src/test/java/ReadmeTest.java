import java.io.ByteArrayOutputStream;
import java.io.File;
import java.io.PrintStream;
import java.util.ArrayList;
import java.util.List;
import java.util.regex.Matcher;
import java.util.regex.Pattern;

/** README.md: that its example answers what it says, and that it names all calls and all tests. */
public final class ReadmeTest {
    private static final String TESTS = "src/test/java";
    private static final String README = Document.read("README.md");
    private static final String EXAMPLE = Document.read(TESTS + "/Example.java");

    public static void main(String[] args) {
        Due.is("whether README.md has Example.java as it is", README.contains("```java\n" + EXAMPLE + "```") ? 1 : 0, 1);
        testExample();
        testCalls();
        testTests();
        Due.end("ReadmeTest");
    }

    private static void testExample() {
        List<String> lines = found("println\\((.*)\\); *// (-?\\d+)\\b", EXAMPLE);
        String[] printed = printed().split("\\R");
        Due.is("lines of the example that print", found("(print)(ln)", EXAMPLE).size() / 2, lines.size() / 2);
        Due.is("lines that are printed", printed.length, lines.size() / 2);
        for (int line = 0; line < printed.length && 2 * line + 1 < lines.size(); line++) {
            Due.is(lines.get(2 * line) + " of the example", Long.parseLong(printed[line]), Long.parseLong(lines.get(2 * line + 1)));
        }
    }

    private static String printed() {
        PrintStream out = System.out;
        ByteArrayOutputStream bytes = new ByteArrayOutputStream();
        System.setOut(new PrintStream(bytes, true));
        Example.main(new String[0]);
        System.setOut(out);
        return bytes.toString();
    }

    /** Both groups of each place that is found, one behind the other. */
    private static List<String> found(String pattern, String text) {
        List<String> groups = new ArrayList<>();
        Matcher matcher = Pattern.compile(pattern).matcher(text);
        while (matcher.find()) {
            groups.add(matcher.group(1));
            groups.add(matcher.group(2));
        }
        return groups;
    }

    private static void testCalls() {
        int calls = 0;
        for (String declaration : Document.face()) {
            if (declaration.matches("public (int|long) .*")) {
                String call = declaration.replaceAll("^public \\w+ |\\bint ", "");
                Due.is("whether README.md has a row for " + call, README.contains("| `" + call + "` | ") ? 1 : 0, 1);
                calls++;
            }
        }
        Due.is("calls of the document", calls, 27);
    }

    private static void testTests() {
        File[] files = new File(TESTS).listFiles((directory, name) -> name.matches(".*(Test|Edges)\\.java"));
        for (File file : files) {
            String name = file.getName().replace(".java", "");
            Due.is("whether README.md has a row for " + name, README.contains("\n| " + name + " | ") ? 1 : 0, 1);
        }
        for (String name : found("\\n\\| (\\w+(Test|Edges)) \\|", README)) {
            boolean isThere = name.matches("Test|Edges") || new File(TESTS, name + ".java").exists();
            Due.is("whether there is a " + name, isThere ? 1 : 0, 1);
        }
    }
}
