import java.util.LinkedHashMap;
import java.util.Map;
import java.util.TreeMap;

/** The document by its sections, and which of their words a test has named: each is to be named by one. */
final class Sentences {
    private static final Map<String, String> SECTIONS = sections();
    private static final Map<String, boolean[]> NAMED = new TreeMap<>();

    private Sentences() {
    }

    private static Map<String, String> sections() {
        Map<String, String> sections = new LinkedHashMap<>();
        for (String part : Document.text().split("(?m)^## ")) {
            int end = part.indexOf('\n');
            String title = part.substring(0, end).replaceAll(":.*", "").trim();
            sections.put(title, words(title, part.substring(end)));
        }
        // What the interface says ahead of its calls are headings, which promise nothing.
        sections.computeIfPresent("Terms", (title, words) -> words.replaceFirst("Ahead of the calls .*$", ""));
        return sections;
    }

    /** Without what is not the document's own words: fences, page marks, the signature ahead of a promise. */
    private static String words(String title, String lines) {
        String words = lines.replaceAll("```\\w*", " ").replaceAll("\\s+", " ").trim();
        if (title.startsWith("Promise")) {
            return words.replaceFirst("^`[^`]*`: ", "");
        }
        return words.replaceFirst("^.*======== 1 ", "").replaceAll("======== \\d+ ", "");
    }

    static void name(String section, String sentence) {
        String words = SECTIONS.getOrDefault(section, "");
        int place = words.indexOf(sentence);
        Due.is("whether " + section + " of the document has '" + sentence + "'", place >= 0 ? 1 : 0, 1);
        boolean[] named = NAMED.computeIfAbsent(section, unnamed -> new boolean[words.length()]);
        for (int word = place; place >= 0 && word < place + sentence.length(); word++) {
            named[word] = true;
        }
    }

    /** What of "What it is", "Terms" and the promises no test has named. */
    static void checkAllNamed() {
        for (String section : SECTIONS.keySet()) {
            if (section.matches("What it is|Terms|Promise \\d+")) {
                String left = leftOf(section);
                Due.is("whether no test names '" + left + "' of " + section, left.matches("\\W*") ? 0 : 1, 0);
            }
        }
    }

    private static String leftOf(String section) {
        String words = SECTIONS.get(section);
        boolean[] named = NAMED.getOrDefault(section, new boolean[words.length()]);
        StringBuilder left = new StringBuilder();
        for (int place = 0; place < words.length(); place++) {
            if (!named[place]) {
                left.append(words.charAt(place));
            }
        }
        return left.toString().trim();
    }
}
