import java.io.IOException;
import java.io.UncheckedIOException;
import java.nio.file.Files;
import java.nio.file.Path;

/** ../shared/DOC.md, to look up whether it still has the sentence that a test names. */
final class Document {
    private static final Path PLACE = Path.of("../shared/DOC.md");
    private static final String TEXT = read();

    private Document() {
    }

    private static String read() {
        if (!Files.exists(PLACE)) {
            System.out.println(PLACE + " is not there: no sentence is looked up");
            return "";
        }
        try {
            return Files.readString(PLACE);
        } catch (IOException unreadable) {
            throw new UncheckedIOException(unreadable);
        }
    }

    /** Whether the section with this heading has the sentence, however its lines are broken. */
    static boolean says(String section, String sentence) {
        if (TEXT.isEmpty()) {
            return true;
        }
        for (String part : TEXT.split("(?m)^#+ ")) {
            if (part.startsWith(section + "\n") && inOneLine(part).contains(inOneLine(sentence))) {
                return true;
            }
        }
        return false;
    }

    private static String inOneLine(String text) {
        return text.replaceAll("\\s+", " ").trim();
    }
}
