import java.io.IOException;
import java.io.UncheckedIOException;
import java.nio.file.Files;
import java.nio.file.Path;

/** The document, by its promises, so that a test names a sentence that really stands there. */
final class Doc {
    static final int TERMS = 0;
    static final int PROMISES = 42;

    private static final Path FILE = Path.of("../shared/DOC.md");
    private static final String[] PARTS = new String[PROMISES + 1];

    private Doc() { }

    /** Whether a promise, or the TERMS, has these words, whatever blanks and lines stand between them. */
    static boolean says(int promise, String words) {
        return text(promise).contains(plain(words));
    }

    static String text(int promise) {
        if (PARTS[TERMS] == null) {
            read();
        }
        return PARTS[promise];
    }

    private static void read() {
        try {
            String all = Files.readString(FILE);
            PARTS[TERMS] = plain(between(all, "\n## Terms", "\n## Promise 1:"));
            for (int n = 1; n <= PROMISES; n++) {
                String next = n < PROMISES ? "\n## Promise " + (n + 1) + ":" : "\n## Not promised";
                PARTS[n] = plain(between(all, "\n## Promise " + n + ":", next));
            }
        } catch (IOException e) {
            throw new UncheckedIOException(e);
        }
    }

    private static String between(String all, String start, String end) {
        int from = all.indexOf(start);
        int to = all.indexOf(end);
        if (from < 0 || to < from) {
            throw new IllegalStateException("the document has no part from" + start + " to" + end);
        }
        return all.substring(from, to);
    }

    private static String plain(String text) {
        return text.replaceAll("\\s+", " ");
    }
}
