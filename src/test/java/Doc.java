import java.io.IOException;
import java.nio.charset.StandardCharsets;
import java.nio.file.Files;
import java.nio.file.Path;
import java.util.ArrayList;
import java.util.List;

/** The document from its first line to its last promise, and which of its words a test has named. */
final class Doc {
    static final int PROMISES = 37;
    static final int TERMS = 0;
    static final int WHAT_IT_IS = PROMISES + 1;
    private static final Path FILE = Path.of("..", "shared", "DOC.md");

    /** Headings of the face that promise nothing of their own. */
    private static final String HEADING = "Ahead of the calls [^-]* the interface says: ----"
            + " (layers, places|counts|who holds what|texts|all of it)?\\.?";

    private final String[] texts = new String[PROMISES + 2];
    private final boolean[][] named = new boolean[PROMISES + 2][];

    Doc() throws IOException {
        String all = Files.readString(FILE, StandardCharsets.UTF_8);
        texts[WHAT_IT_IS] = plain(between(all, "## What it is", "## The public face"));
        texts[TERMS] = plain(between(all, "## Terms", "## Promise 1:"));
        for (int p = 1; p <= PROMISES; p++) {
            String next = p == PROMISES ? "## Not promised" : "## Promise " + (p + 1) + ":";
            String section = between(all, "## Promise " + p + ":", next);
            texts[p] = plain(section.substring(section.indexOf("`: ") + 3));
        }
        for (int p = 0; p < texts.length; p++) {
            named[p] = new boolean[texts[p].length()];
        }
    }

    private static String between(String all, String from, String to) throws IOException {
        int start = all.indexOf(from);
        int end = all.indexOf(to);
        if (start < 0 || end < start) {
            throw new IOException("the document has no " + from + " ahead of " + to);
        }
        return all.substring(start + from.length(), end);
    }

    private static String plain(String text) {
        return text.replace("```text", " ").replace("```", " ").replaceAll("\\s+", " ").trim();
    }

    static String title(int promise) {
        if (promise == WHAT_IT_IS) {
            return "What it is";
        }
        return promise == TERMS ? "Terms" : "promise " + promise;
    }

    /** Whether a promise (or the Terms, or What it is) has these words; they are named then. */
    boolean name(int promise, String words) {
        int at = texts[promise].indexOf(words);
        for (int i = at; at >= 0 && i < at + words.length(); i++) {
            named[promise][i] = true;
        }
        return at >= 0;
    }

    /** The stretches that no test has named; headings of the face and mere signs aside. */
    List<String> unnamed() {
        List<String> left = new ArrayList<>();
        for (int p = 0; p < texts.length; p++) {
            StringBuilder stretch = new StringBuilder();
            for (int i = 0; i <= texts[p].length(); i++) {
                if (i < texts[p].length() && !named[p][i]) {
                    stretch.append(texts[p].charAt(i));
                } else {
                    addStretch(left, p, stretch);
                }
            }
        }
        return left;
    }

    private static void addStretch(List<String> left, int promise, StringBuilder stretch) {
        String words = stretch.toString().replaceAll(HEADING, "");
        if (words.chars().anyMatch(Character::isLetter)) {
            left.add(title(promise) + ": " + words.trim());
        }
        stretch.setLength(0);
    }
}
