import java.lang.reflect.Executable;
import java.lang.reflect.Field;
import java.lang.reflect.Method;
import java.lang.reflect.Modifier;
import java.nio.file.Path;
import java.util.ArrayList;
import java.util.List;
import java.util.Set;
import java.util.TreeSet;
import java.util.regex.Matcher;
import java.util.regex.Pattern;

/** The rules of ../shared/LANGUAGE.md, as far as the program's text and its classes show them. */
public final class LanguageTest {
    private static final Path PROGRAM = Path.of("src", "main", "java", "LoadProfileMeter.java");
    private static final Set<String> IMPORTS = Set.of("java.util.NoSuchElementException", "java.util.ArrayList",
        "java.util.List", "java.util.Arrays", "java.util.Iterator");
    private static final Set<Class<?>> CONSTANTS = Set.of(int.class, long.class, boolean.class, char.class,
        String.class, int[].class, long[].class, char[].class, byte[].class);
    private static final String THROWN = "throw new (IllegalStateException|IllegalArgumentException"
        + "|IndexOutOfBoundsException|NoSuchElementException)\\((\"[^\"]*\")?\\);";

    private final String text = withoutComments(Document.textOf(PROGRAM));
    private final List<Class<?>> classes = new ArrayList<>(List.of(LoadProfileMeter.class));

    private LanguageTest() {
        classes.addAll(List.of(LoadProfileMeter.class.getDeclaredClasses()));
    }

    public static void main(String[] args) {
        LanguageTest test = new LanguageTest();
        test.namesOfTheFaceAreItsOwn();
        test.noOtherForms();
        test.importsAreAllowed();
        test.staticFieldsAreConstants();
        test.onlyTheFaceThrows();
        test.allIsShort();
        test.nothingIsMadeByACall();
        Check.end();
    }

    private static String withoutComments(String text) {
        return text.replaceAll("(?s)/\\*.*?\\*/", "").replaceAll("//[^\n]*", "");
    }

    private int times(String pattern) {
        return (int) Pattern.compile(pattern).matcher(text).results().count();
    }

    private void namesOfTheFaceAreItsOwn() {
        Set<String> face = new TreeSet<>();
        for (Method m : LoadProfileMeter.class.getDeclaredMethods()) {
            if (Modifier.isPublic(m.getModifiers())) {
                face.add(m.getName());
            }
        }
        for (Class<?> c : classes) {
            for (Method m : c.getDeclaredMethods()) {
                boolean taken = face.contains(m.getName()) && !(c == LoadProfileMeter.class && Modifier.isPublic(m.getModifiers()));
                Check.due("rule 1: " + m + " bears a name of the face", taken ? 1 : 0, 0);
            }
        }
    }

    private void noOtherForms() {
        String[] forms = {"->", "::", "\\bpackage\\b", "\\btry\\b", "\\bfinally\\b", "\\bassert\\b", "\\bsynchronized\\b",
            "\\bstatic \\{", "\\.getMessage\\(", "\\b(equals|hashCode|toString)\\(", "\\b\\w+Exact\\(", "\\bObject\\b"};
        for (String form : forms) {
            Check.due("rules 2 and 6: how often there is " + form, times(form), 0);
        }
        Check.due("rule 3: characters beyond 255", text.chars().filter(c -> c > 255).count(), 0);
    }

    private void importsAreAllowed() {
        Matcher m = Pattern.compile("(?m)^import ([^;]*);").matcher(text);
        while (m.find()) {
            Check.due("rule 4: import of " + m.group(1), IMPORTS.contains(m.group(1)) ? 1 : 0, 1);
        }
        Check.due("rule 4: names with a package", times("\\bjavax?\\.\\w"), times("(?m)^import java\\."));
        Check.due("rule 4: calls of System", times("\\bSystem\\."), times("\\bSystem\\.arraycopy\\("));
    }

    private void staticFieldsAreConstants() {
        for (Class<?> c : classes) {
            for (Field f : c.getDeclaredFields()) {
                if (Modifier.isStatic(f.getModifiers())) {
                    Check.due("rule 5: " + f + " is final", f.getModifiers() & Modifier.FINAL, Modifier.FINAL);
                    Check.due("rule 5: " + f + " is a constant", CONSTANTS.contains(f.getType()) ? 1 : 0, 1);
                }
            }
        }
    }

    private void onlyTheFaceThrows() {
        Check.due("rule 6: throw statements of other forms", times("\\bthrow\\b"), times(THROWN));
        int inside = text.indexOf("private static final class");
        Check.due("rule 6: a throw in a class inside", text.indexOf("throw ", inside), -1);
    }

    private void allIsShort() {
        Check.due("rule 11: more than twelve classes", Math.max(12, classes.size()), 12);
        for (Class<?> c : classes) {
            List<Executable> members = new ArrayList<>(List.of(c.getDeclaredMethods()));
            members.addAll(List.of(c.getDeclaredConstructors()));
            for (Executable e : members) {
                Check.due("rule 11: more than seven parameters of " + e, Math.max(7, e.getParameterCount()), 7);
            }
            int fields = 0;
            for (Field f : c.getDeclaredFields()) {
                fields += Modifier.isStatic(f.getModifiers()) ? 0 : 1;
            }
            Check.due("rule 11: more than twenty fields of " + c, Math.max(20, fields), 20);
        }
        // A method of a class inside ends eight places in, one of the face four.
        int lines = 0;
        for (String line : text.split("\n")) {
            boolean ends = line.equals("        }") || line.equals("    }") || line.isBlank();
            lines = ends ? 0 : lines + 1;
            Check.due("rule 11: more than sixty lines up to " + line, Math.max(60, lines), 60);
        }
    }

    /** Rows stand in fields and are made with the object; what a method makes is thrown. */
    private void nothingIsMadeByACall() {
        for (String line : text.split("\n")) {
            if (line.contains("new ")) {
                boolean field = line.contains("private final ");
                boolean constructed = line.matches(" +\\w+ = new .*");
                Check.due("rule 12: made by a call: " + line, field || constructed || line.contains("throw ") ? 1 : 0, 1);
            }
        }
    }
}
