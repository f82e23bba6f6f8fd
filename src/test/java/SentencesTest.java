import java.io.IOException;
import java.nio.file.DirectoryStream;
import java.nio.file.Files;
import java.nio.file.Path;
import java.util.BitSet;
import java.util.List;
import java.util.Map;
import java.util.TreeMap;
import java.util.regex.Matcher;
import java.util.regex.Pattern;

/** Every quote of a test stands in the document, and all that the document says of calls is quoted. */
public final class SentencesTest {
    private static final Path TESTS = Path.of("src", "test", "java");
    private static final Pattern QUOTE =
        Pattern.compile("Check\\.sentence\\(\"([^\"]+)\",\\s*\"((?:[^\"\\\\]|\\\\.)*)\"\\)");
    /** FaceTest has the signature at the beginning of each promise. */
    private static final Pattern SIGNATURE = Pattern.compile("^`[^`]*`: ");
    private static final Pattern WORD = Pattern.compile("\\w");

    /** Words that name no answer, no change of state and no exception. */
    private static final List<String> NO_ANSWERS = List.of(
        "A meter that counts, keeps a load profile, and is asked over a line: frames with two checks and sequence "
            + "numbers, an association that decides what may be done, objects with attributes and methods, values "
            + "encoded with tags, and long answers in blocks.",
        "what later calls answer is free.",
        "```text",
        "ANSWERS.",
        "Ahead of the calls `run`, `count`, `time`, `register`, `entries`, `entry`, `link` the interface says: "
            + "---- what goes on at the meter.",
        "Ahead of the calls `put`, `putInt`, `poke`, `frame`, `ask`, `clear`, `deliver`, `reply` the interface says: "
            + "---- the line.");

    private final Map<String, String> sections = Document.sections();
    private final Map<String, BitSet> quoted = new TreeMap<>();

    public static void main(String[] args) throws IOException {
        SentencesTest test = new SentencesTest();
        test.everySectionIsThere();
        test.quotesStandInTheDocument();
        test.theDocumentIsQuoted();
        Check.end();
    }

    private void everySectionIsThere() {
        Check.due("sections", sections.size(), 20);
        for (int promise = 1; promise <= 16; promise++) {
            Check.due("a section Promise " + promise, sections.containsKey("Promise " + promise) ? 1 : 0, 1);
        }
    }

    private void quotesStandInTheDocument() throws IOException {
        try (DirectoryStream<Path> files = Files.newDirectoryStream(TESTS, "*Test.java")) {
            for (Path file : files) {
                Matcher m = QUOTE.matcher(Document.textOf(file));
                while (m.find()) {
                    quote(m.group(1), m.group(2).replace("\\\"", "\""));
                }
            }
        }
    }

    private void quote(String where, String words) {
        String text = sections.getOrDefault(where, "");
        int at = text.indexOf(words);
        Check.due("\"" + words + "\" stands under " + where, at >= 0 ? 1 : 0, 1);
        BitSet marks = quoted.computeIfAbsent(where, title -> new BitSet());
        while (at >= 0) {
            marks.set(at, at + words.length());
            at = text.indexOf(words, at + 1);
        }
    }

    private void theDocumentIsQuoted() {
        sections.forEach((title, text) -> {
            if (!title.equals("The public face") && !title.equals("Not promised")) {
                String left = notQuoted(text, quoted.getOrDefault(title, new BitSet()));
                for (String part : left.split("\\|+")) {
                    Check.due("no test quotes of " + title + " \"" + part + "\"", WORD.matcher(part).find() ? 1 : 0, 0);
                }
            }
        });
    }

    /** What is left of the text, with bars for what is quoted. */
    private static String notQuoted(String text, BitSet marks) {
        StringBuilder left = new StringBuilder();
        for (int i = 0; i < text.length(); i++) {
            left.append(marks.get(i) ? '|' : text.charAt(i));
        }
        String rest = SIGNATURE.matcher(left).replaceFirst("");
        for (String words : NO_ANSWERS) {
            rest = rest.replace(words, "|");
        }
        return rest;
    }
}
