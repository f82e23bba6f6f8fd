import java.nio.file.Path;
import java.util.regex.Matcher;
import java.util.regex.Pattern;

/** README.md has each call in the document's words, and its example answers what its comments say. */
public final class ReadmeTest {
    private static final String TEXT = Document.textOf(Path.of("README.md"));
    private static final Pattern EXAMPLE = Pattern.compile("(?s)```java\n(.*?)```");
    private static final Pattern MADE = Pattern.compile("new LoadProfileMeter\\((-?\\d+), (-?\\d+)\\);");
    private static final Pattern CALL = Pattern.compile("m\\.(\\w+)\\(([^)]*)\\); +// (-?\\d+).*");

    public static void main(String[] args) throws ReflectiveOperationException {
        callsAreInTheDocumentsWords();
        theExampleAnswers();
        Check.end();
    }

    private static void callsAreInTheDocumentsWords() {
        String readme = Document.inOneLine(TEXT);
        Document.sections().forEach((title, words) -> {
            if (title.startsWith("Promise ")) {
                Check.due(title + " stands in README.md: " + words, readme.contains(words) ? 1 : 0, 1);
            }
        });
        for (String words : new String[] {"An object is used for at most 512 calls after it has been made",
            "Of several exceptions the one named first is thrown; a call that throws changes nothing."}) {
            Check.due("README.md says: " + words, readme.contains(words) ? 1 : 0, 1);
        }
    }

    private static void theExampleAnswers() throws ReflectiveOperationException {
        Matcher example = EXAMPLE.matcher(TEXT);
        Check.due("README.md has an example", example.find() ? 1 : 0, 1);
        LoadProfileMeter meter = null;
        for (String line : example.group(1).split("\n")) {
            Matcher made = MADE.matcher(line);
            Matcher call = CALL.matcher(line);
            if (made.find()) {
                meter = new LoadProfileMeter(Integer.parseInt(made.group(1)), Integer.parseInt(made.group(2)));
            } else if (call.matches()) {
                int answer = answerOf(meter, call.group(1), call.group(2));
                Check.due(line, answer, Integer.parseInt(call.group(3)));
            } else {
                Check.due("calls that can not be read: " + line, line.isBlank() ? 0 : 1, 0);
            }
        }
    }

    private static int answerOf(LoadProfileMeter meter, String name, String written) throws ReflectiveOperationException {
        String[] parts = written.isEmpty() ? new String[0] : written.split(", ");
        Class<?>[] types = new Class<?>[parts.length];
        Object[] values = new Object[parts.length];
        for (int i = 0; i < parts.length; i++) {
            boolean number = parts[i].matches("-?\\d+");
            types[i] = number ? int.class : boolean.class;
            values[i] = number ? (Object) Integer.valueOf(parts[i]) : (Object) Boolean.valueOf(parts[i]);
        }
        return (Integer) LoadProfileMeter.class.getMethod(name, types).invoke(meter, values);
    }
}
