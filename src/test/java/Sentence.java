import java.io.IOException;
import java.io.UncheckedIOException;
import java.nio.file.Files;
import java.nio.file.Path;

/** Names the sentence of the document that the calls behind it test; it has to stand there. */
final class Sentence {
    private static final String DOCUMENT = document();

    private Sentence() {
    }

    /** A sentence of the Terms. */
    static void ofTerms(String words) {
        of("Terms", words);
    }

    static void ofPromise(int promise, String words) {
        of("Promise " + promise + ":", words);
    }

    private static void of(String part, String words) {
        Due.about(part.replace(":", "") + " '" + words + "'");
        Due.isTrue("it stands in the document", wordsOf(part).contains(words));
    }

    /** From a part's heading up to the next one. */
    private static String wordsOf(String part) {
        int start = DOCUMENT.indexOf("## " + part);
        if (start < 0) {
            return "";
        }
        int end = DOCUMENT.indexOf("## ", start + 3);
        return DOCUMENT.substring(start, end < 0 ? DOCUMENT.length() : end);
    }

    private static String document() {
        try {
            return Files.readString(Path.of("../shared/DOC.md")).replaceAll("\\s+", " ");
        } catch (IOException e) {
            throw new UncheckedIOException(e);
        }
    }
}
