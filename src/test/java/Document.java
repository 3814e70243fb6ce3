import java.io.IOException;
import java.nio.file.Files;
import java.nio.file.Path;

/**
 * The document's words, so that a test can't name a sentence that is not there. Where it lies is
 * told by the property "document"; without that, nothing is looked up.
 */
final class Document {
    private final String text;

    Document() {
        String path = System.getProperty("document");
        text = path == null ? null : read(Path.of(path));
    }

    private static String read(Path path) {
        try {
            return Files.readString(path);
        } catch (IOException e) {
            throw new IllegalStateException("no document at " + path, e);
        }
    }

    /** Whether the words stand below this heading, however they are broken into lines. */
    boolean says(String heading, String words) {
        if (text == null) {
            return true;
        }
        for (String section : text.split("\n## ")) {
            String title = section.lines().findFirst().orElse("");
            if (title.equals(heading) || title.startsWith(heading + ":")) {
                return squeezed(section).contains(squeezed(words));
            }
        }
        return false;
    }

    private static String squeezed(String words) {
        return words.replaceAll("\\s+", " ").strip();
    }
}
