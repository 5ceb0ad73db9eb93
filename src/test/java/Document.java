import java.io.IOException;
import java.nio.file.Files;
import java.nio.file.Path;
import java.util.LinkedHashMap;
import java.util.List;
import java.util.Map;

/** The words of ../shared/DOC.md, without its marks, by the headings that they stand under. */
final class Document {
    private static final Path FILE = Path.of("../shared/DOC.md");

    private final Map<String, String> sections = new LinkedHashMap<>();

    Document() throws IOException {
        String chapter = "";
        String heading = "";
        boolean isCode = false;
        for (String line : isHere() ? Files.readAllLines(FILE) : List.<String>of()) {
            if (line.startsWith("```")) {
                isCode = !isCode;
            } else if (line.startsWith("## ")) {
                // The name of the call stands behind the number of a promise.
                chapter = line.substring(3).replaceAll(":.*", "");
                heading = chapter;
            } else if (line.startsWith("### ")) {
                heading = chapter + ", " + line.substring(4);
            } else if (!isCode && !line.startsWith("# ") && !line.isBlank()) {
                sections.merge(heading, plain(line), (words, more) -> words + " " + more);
            }
        }
    }

    static boolean isHere() {
        return Files.exists(FILE);
    }

    Map<String, String> sections() {
        return sections;
    }

    boolean says(String where, String words) {
        return sections.getOrDefault(heading(where), "").contains(words);
    }

    /** A test may say behind the heading which of the promises it looks at. */
    static String heading(String where) {
        return where.replaceAll(", promises? .*", "");
    }

    /** What a call looks like stands ahead of what it does, between marks; FaceTest has that. */
    private static String plain(String line) {
        return line.replaceAll("^`[^`]*\\)[^`]*`: ", "").replaceAll("^- ", "").replace("`", "");
    }
}
