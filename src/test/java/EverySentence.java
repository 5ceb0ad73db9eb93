import java.nio.file.Files;
import java.nio.file.Path;
import java.util.ArrayList;
import java.util.List;
import java.util.Map;

/** Goes through the document from its first line, and tells each part of it that no test has quoted. */
public final class EverySentence {
    /** What names nothing that a call could answer wrongly. */
    private static final String[] FREE = {"; what later calls answer is free."};
    private static final String FREE_SECTION = "Not promised";
    /** What may be left between two parts of a sentence that are quoted. */
    private static final String LINK = "[\\s.,;:]*(and)?[\\s.,;:]*";

    public static void main(String[] args) throws Exception {
        if (!Document.isHere()) {
            System.out.println("the document is not here, so its sentences are not looked at");
            return;
        }
        List<String> quoted = Files.readAllLines(Path.of(args[0]));
        int untested = 0;
        for (Map.Entry<String, String> section : new Document().sections().entrySet()) {
            for (String part : unquoted(section.getKey(), section.getValue(), quoted)) {
                untested++;
                System.out.println(section.getKey() + ", \"" + part + "\": no test quotes it");
            }
        }
        System.out.println(untested == 0 ? "each sentence has a test" : untested + " parts of sentences have no test");
        System.exit(untested == 0 ? 0 : 1);
    }

    private static List<String> unquoted(String heading, String words, List<String> quoted) {
        List<String> parts = new ArrayList<>();
        if (heading.equals(FREE_SECTION)) {
            return parts;
        }
        boolean[] isQuoted = new boolean[words.length()];
        for (String line : quoted) {
            if (line.startsWith(heading + "\t")) {
                mark(isQuoted, words, line.substring(heading.length() + 1));
            }
        }
        for (String free : FREE) {
            mark(isQuoted, words, free);
        }
        int start = 0;
        for (int i = 0; i <= words.length(); i++) {
            if (i == words.length() || isQuoted[i]) {
                if (!words.substring(start, i).matches(LINK)) {
                    parts.add(words.substring(start, i).trim());
                }
                start = i + 1;
            }
        }
        return parts;
    }

    private static void mark(boolean[] isQuoted, String words, String part) {
        for (int at = words.indexOf(part); at >= 0; at = words.indexOf(part, at + 1)) {
            for (int i = at; i < at + part.length(); i++) {
                isQuoted[i] = true;
            }
        }
    }
}
