import java.io.IOException;
import java.nio.file.Files;
import java.nio.file.Path;

/** The words of ../shared/DOC.md, so that a test cannot quote a sentence that does not stand there. */
final class Document {

    private static final Path PLACE = Path.of("..", "shared", "DOC.md");
    private static final String TEXT = onOneLine();

    private Document() {
    }

    /** Whether the words stand in the document; true as well where there is no document to ask. */
    static boolean says(String words) {
        return TEXT.isEmpty() || TEXT.contains(words);
    }

    private static String onOneLine() {
        try {
            return Files.readString(PLACE).replaceAll("\\s+", " ");
        } catch (IOException e) {
            System.out.println("no " + PLACE + " here: quotes are not compared with it");
            return "";
        }
    }
}
