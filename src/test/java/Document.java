import java.io.IOException;
import java.io.UncheckedIOException;
import java.nio.file.Files;
import java.nio.file.Path;
import java.util.LinkedHashMap;
import java.util.Map;

/** The sections of the document, each with one space wherever it has white space. */
final class Document {
    private static final Path PLACE = Path.of("..", "shared", "DOC.md");

    private Document() {
    }

    static String textOf(Path file) {
        try {
            return Files.readString(file);
        } catch (IOException e) {
            throw new UncheckedIOException(e);
        }
    }

    static String inOneLine(String text) {
        return text.strip().replaceAll("\\s+", " ");
    }

    /** By their titles, which for a promise is "Promise 1" without its name. */
    static Map<String, String> sections() {
        Map<String, String> sections = new LinkedHashMap<>();
        String[] parts = textOf(PLACE).split("(?m)^## ");
        for (int i = 1; i < parts.length; i++) {
            String[] titleAndText = parts[i].split("\n", 2);
            sections.put(titleAndText[0].replaceFirst(":.*", ""), inOneLine(titleAndText[1]));
        }
        return sections;
    }
}
