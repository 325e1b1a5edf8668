import java.io.IOException;
import java.nio.file.Files;
import java.nio.file.Path;
import java.util.regex.Matcher;
import java.util.regex.Pattern;

/** The document's own lines of the public face, as they stand in the source. */
final class FaceWords {
    private FaceWords() {
    }

    static void all() throws IOException {
        String source = Files.readString(Path.of("src/main/java/StraightSteps.java"));
        lines(source);
        ahead(source, "Ahead of the calls `step`, `back`, `way`, `place`, `draw`, `word`, `straight`, `span`, `plain`,"
            + " `longest`, `pieces`, `pieceEnd` the interface says: ---- the row.", 0);
        ahead(source, "Ahead of the calls `ground`, `set`, `has`, `fill`, `heap`, `is`, `disc`, `part`, `hull`,"
            + " `corner`, `deep`, `deepest`, `needed`, `balls`, `loose`, `thinning`, `thin`, `count` the interface"
            + " says: ---- heaps.", source.indexOf("public int pieceEnd"));
    }

    /** Each line is there, and in the document's order. */
    private static void lines(String source) {
        int at = 0;
        for (String line : Sentences.linesOf("The public face")) {
            Sentences.name("The public face", line);
            if (line.startsWith("public")) {
                int found = source.indexOf(line.replaceAll("\\);$", ") {"), at);
                Sentences.dueSo("it stands in the source, behind the one before it", found >= 0);
                at = Math.max(at, found);
            }
        }
    }

    private static void ahead(String source, String words, int behind) {
        Sentences.terms(words);
        int heading = source.indexOf("// " + words.substring(words.indexOf("----"), words.length() - 1));
        Sentences.dueSo("the source says so", heading > behind);
        Matcher call = Pattern.compile("`(\\w+)`").matcher(words);
        while (call.find()) {
            Sentences.dueSo(call.group(1), source.indexOf("public int " + call.group(1) + "(") > heading);
        }
    }
}
