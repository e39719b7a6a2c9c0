import java.nio.charset.StandardCharsets;
import java.nio.file.Files;
import java.nio.file.Path;

/**
 * The document's words, gone through from one place to another: what a test quotes has to come next, and
 * nothing may be left over, so that no sentence stays without a test.
 */
final class Document {
    private final Check check;
    private String left;

    /** From the first of these words up to the other ones, or up to the end if these are empty. */
    Document(Check check, String first, String behind) throws Exception {
        this.check = check;
        String all = plain(Files.readString(Path.of("../shared/DOC.md"), StandardCharsets.UTF_8));
        int from = all.indexOf(first);
        int to = behind.isEmpty() ? all.length() : all.indexOf(behind);
        check.due("the document has '" + first + "' ahead of '" + behind + "'", from >= 0 && from < to ? 1 : 0, 1);
        left = from >= 0 && from < to ? all.substring(from, to) : "";
    }

    /** Without the signs that only set the words out. */
    private static String plain(String text) {
        return text.replaceAll("(?m)^```.*$", " ").replaceAll("(?m)^#+ ", "").replaceAll("={8} \\d", " ")
            .replace("`", "").replaceAll("\\s+", " ").trim();
    }

    void says(String words) {
        boolean next = left.startsWith(words);
        if (!next) {
            System.out.println("the document goes on: " + left.substring(0, Math.min(90, left.length())));
        }
        check.due("the document says '" + words + "'", next ? 1 : 0, 1);
        left = next ? left.substring(words.length()).trim() : left;
    }

    /** All that comes ahead of these words, for a test that reads it by itself. */
    String upTo(String words) {
        int at = Math.max(0, left.indexOf(words));
        String ahead = left.substring(0, at);
        left = left.substring(at);
        return ahead;
    }

    void end() {
        check.due("words left over: '" + left + "'", left.length(), 0);
    }
}
