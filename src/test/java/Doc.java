import java.io.IOException;
import java.nio.charset.StandardCharsets;
import java.nio.file.Files;
import java.nio.file.Path;
import java.util.ArrayList;
import java.util.List;

/** The document's Terms and promises, and which of their words a test has named. */
final class Doc {
    static final int PROMISES = 37;
    private static final Path FILE = Path.of("..", "shared", "DOC.md");

    /** What the document says ahead of the Terms is left out but for this, which bounds a run. */
    private static final String BOUND_OF_CALLS =
            "An object is used for at most 512 calls after it has been made; what later calls answer is free.";

    /** Headings of the face that promise nothing of their own. */
    private static final String HEADING = "Ahead of the calls [^-]* the interface says: ----"
            + " (layers, places|counts|who holds what|texts|all of it)?\\.?";

    private final String[] texts = new String[PROMISES + 1];
    private final boolean[][] named = new boolean[PROMISES + 1][];

    Doc() throws IOException {
        String all = Files.readString(FILE, StandardCharsets.UTF_8);
        texts[0] = BOUND_OF_CALLS + " " + plain(between(all, "## Terms", "## Promise 1:"));
        for (int p = 1; p <= PROMISES; p++) {
            String next = p == PROMISES ? "## Not promised" : "## Promise " + (p + 1) + ":";
            String section = between(all, "## Promise " + p + ":", next);
            texts[p] = plain(section.substring(section.indexOf("`: ") + 3));
        }
        for (int p = 0; p <= PROMISES; p++) {
            named[p] = new boolean[texts[p].length()];
        }
        if (!plain(all).contains(BOUND_OF_CALLS)) {
            throw new IOException("the document bounds a run of calls otherwise");
        }
    }

    private static String between(String all, String from, String to) throws IOException {
        int start = all.indexOf(from);
        int end = all.indexOf(to);
        if (start < 0 || end < start) {
            throw new IOException("the document has no " + from + " ahead of " + to);
        }
        return all.substring(start + from.length(), end);
    }

    private static String plain(String text) {
        return text.replace("```text", " ").replace("```", " ").replaceAll("\\s+", " ").trim();
    }

    /** Whether a promise (0: the Terms) has these words; they are named then. */
    boolean name(int promise, String words) {
        int at = texts[promise].indexOf(words);
        for (int i = at; at >= 0 && i < at + words.length(); i++) {
            named[promise][i] = true;
        }
        return at >= 0;
    }

    /** The stretches that no test has named; headings of the face and mere signs aside. */
    List<String> unnamed() {
        List<String> left = new ArrayList<>();
        for (int p = 0; p <= PROMISES; p++) {
            StringBuilder stretch = new StringBuilder();
            for (int i = 0; i <= texts[p].length(); i++) {
                if (i < texts[p].length() && !named[p][i]) {
                    stretch.append(texts[p].charAt(i));
                } else {
                    addStretch(left, p, stretch);
                }
            }
        }
        return left;
    }

    private static void addStretch(List<String> left, int promise, StringBuilder stretch) {
        String words = stretch.toString().replaceAll(HEADING, "");
        if (words.chars().anyMatch(Character::isLetter)) {
            left.add((promise == 0 ? "Terms" : "promise " + promise) + ": " + words.trim());
        }
        stretch.setLength(0);
    }
}
