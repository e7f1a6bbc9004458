import java.io.IOException;
import java.io.UncheckedIOException;
import java.nio.charset.StandardCharsets;
import java.nio.file.Files;
import java.nio.file.Path;
import java.util.Arrays;

/** The document's words by the promise under which they stand, and which of them tests have quoted. */
final class Doc {
    static final int PROMISES = 34;
    private static final String TEXT = load();
    private static final boolean[] QUOTED = new boolean[TEXT.length()];

    private Doc() {
    }

    private static String load() {
        try {
            return Files.readString(Path.of("../shared/DOC.md"), StandardCharsets.UTF_8).replaceAll("\\s+", " ");
        } catch (IOException e) {
            throw new UncheckedIOException(e);
        }
    }

    private static int beginOf(int promise) {
        return TEXT.indexOf("## Promise " + promise + ":");
    }

    private static int endOf(int begin) {
        int end = TEXT.indexOf(" ## ", begin);
        return end < 0 ? TEXT.length() : end;
    }

    /** Marks words of a promise, or of what the document says ahead of all promises; false: it has no such words. */
    static boolean quote(int promise, String words) {
        int begin = beginOf(promise);
        int at = TEXT.indexOf(words, begin);
        if (begin < 0 || at < 0 || at + words.length() > endOf(begin)) {
            at = TEXT.indexOf(words);
            if (at < 0 || at + words.length() > beginOf(1)) {
                return false;
            }
        }
        Arrays.fill(QUOTED, at, at + words.length(), true);
        return true;
    }

    /** What no test has quoted of a promise, behind its head and signature. */
    static String unquoted(int promise) {
        int begin = beginOf(promise);
        int end = endOf(begin);
        return unquoted(TEXT.indexOf("`:", begin) + 2, end);
    }

    /** What no test has quoted of the terms. */
    static String unquotedTerms() {
        int begin = TEXT.indexOf("## Terms") + "## Terms".length();
        return unquoted(begin, TEXT.indexOf("Ahead of the calls", begin));
    }

    private static String unquoted(int begin, int end) {
        StringBuilder left = new StringBuilder();
        for (int i = begin; i < end; i++) {
            left.append(QUOTED[i] ? ' ' : TEXT.charAt(i));
        }
        String words = left.toString().replaceAll("=+ \\d|```text", " ");
        return words.replaceAll("(?<![\\w])[^\\w]+(?![\\w])", " ").strip();
    }
}
