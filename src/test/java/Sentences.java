import java.io.IOException;
import java.nio.file.Files;
import java.nio.file.Path;
import java.util.List;
import java.util.Map;
import java.util.TreeMap;

/**
 * The document's own words: a boundary test first names the sentence that it holds the class to. What is
 * named must stand in the document, and of what it asks each word must be named by some test.
 */
final class Sentences {
    static final int PROMISES = 31;
    private static final Path DOCUMENT = Path.of("../shared/DOC.md");
    private static final Map<String, String> SECTIONS = sections();
    private static final Map<String, String> NOT_NAMED = new TreeMap<>(SECTIONS);

    private static String now = "";

    private Sentences() {
    }

    static void promise(int number, String words) {
        name("Promise " + number, words);
    }

    static void terms(String words) {
        name("Terms", words);
    }

    static void name(String section, String words) {
        now = section + " \"" + words + "\": ";
        if (SECTIONS.isEmpty()) {
            return;
        }
        String text = SECTIONS.getOrDefault(section, "");
        Checks.holds(now + "the document says so", text.contains(words));
        NOT_NAMED.put(section, NOT_NAMED.getOrDefault(section, "").replace(words, " "));
    }

    /** Compares an answer under the sentence that was named last. */
    static void due(String call, long got, long want) {
        Checks.same(now + call, got, want);
    }

    static void dueSo(String what, boolean so) {
        Checks.holds(now + what, so);
    }

    /** To be asked when all tests have run. */
    static void allAreNamed() {
        if (SECTIONS.isEmpty()) {
            System.out.println(DOCUMENT + " is not here: the sentences were not compared with it");
            return;
        }
        for (int number = 1; number <= PROMISES; number++) {
            isNamed("Promise " + number);
        }
        isNamed("What it is");
        isNamed("The public face");
        isNamed("Terms");
    }

    static List<String> linesOf(String section) {
        return SECTIONS.getOrDefault(section, "").lines().map(String::strip).toList();
    }

    /** What is left may be stops, and the marks of parts and of text set apart. */
    private static void isNamed(String section) {
        String left = NOT_NAMED.getOrDefault(section, "?").replaceAll("=+ \\d|```text|```|[\\s.;,:]", "");
        Checks.holds(section + ": no test names \"" + left + "\"", left.isEmpty());
    }

    /** The text of each section by its name; of a promise what stands behind the signature. */
    private static Map<String, String> sections() {
        Map<String, String> sections = new TreeMap<>();
        if (!Files.isReadable(DOCUMENT)) {
            return sections;
        }
        for (String part : read().split("\n## ")) {
            int end = part.indexOf('\n');
            if (end > 0) {
                String text = part.substring(end).strip().replaceFirst("^`[^`]*`: ", "");
                sections.put(part.substring(0, end).replaceFirst("^(Promise \\d+):.*", "$1"), text);
            }
        }
        return sections;
    }

    private static String read() {
        try {
            return Files.readString(DOCUMENT);
        } catch (IOException e) {
            return "";
        }
    }
}
