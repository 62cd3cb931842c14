import java.io.IOException;
import java.io.UncheckedIOException;
import java.nio.file.Files;
import java.nio.file.Path;

/** The document's text, for tests that quote it. */
final class Document {
    private static final String TEXT = plain(read());

    private Document() { }

    static boolean says(String quote) {
        return TEXT.contains(plain(quote));
    }

    private static String read() {
        try {
            return Files.readString(Path.of("../shared/DOC.md"));
        } catch (IOException e) {
            throw new UncheckedIOException(e);
        }
    }

    /** Where a line ends in the document means nothing. */
    private static String plain(String text) {
        return text.replaceAll("\\s+", " ");
    }
}
