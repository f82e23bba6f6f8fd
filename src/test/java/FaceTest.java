import java.lang.reflect.Constructor;
import java.lang.reflect.Executable;
import java.lang.reflect.Field;
import java.lang.reflect.Method;
import java.lang.reflect.Modifier;
import java.util.Arrays;
import java.util.Set;
import java.util.TreeSet;
import java.util.regex.Matcher;
import java.util.regex.Pattern;
import java.util.stream.Collectors;

/** The class has the document's face, with its exceptions, and nothing else that others can see. */
public final class FaceTest {
    private static final Class<LoadProfileMeter> MADE = LoadProfileMeter.class;
    private static final Pattern MEMBER = Pattern.compile("public ([\\w ]+\\([\\w ,]*\\)[\\w ,.]*);");

    public static void main(String[] args) {
        theClass();
        theFaceIsTheDocuments();
        promisesAreOfTheFace();
        nothingElseIsSeen();
        Check.end();
    }

    private static void theClass() {
        Check.due("the document says public final class",
            face().contains("public final class LoadProfileMeter {") ? 1 : 0, 1);
        Check.due("modifiers of the class", MADE.getModifiers(), Modifier.PUBLIC | Modifier.FINAL);
        Check.due("it extends nothing", MADE.getSuperclass() == Object.class ? 1 : 0, 1);
        Check.due("it implements nothing", MADE.getInterfaces().length, 0);
    }

    private static String face() {
        return Document.sections().get("The public face");
    }

    /** As the document writes it, without the parameters' names. */
    private static String withoutNames(String member) {
        return member.replaceAll("(int|boolean) \\w+(?=[,)])", "$1");
    }

    private static Set<String> due() {
        Set<String> due = new TreeSet<>();
        Matcher m = MEMBER.matcher(face());
        while (m.find()) {
            due.add(withoutNames(m.group(1)));
        }
        return due;
    }

    private static void theFaceIsTheDocuments() {
        Set<String> due = due();
        Check.due("members of the document's face", due.size(), 16);
        Set<String> seen = new TreeSet<>();
        for (Constructor<?> c : MADE.getDeclaredConstructors()) {
            seen.add(written("", MADE.getName(), c));
            Check.due(c + " is public", c.getModifiers(), Modifier.PUBLIC);
        }
        for (Method m : MADE.getDeclaredMethods()) {
            if (!Modifier.isPrivate(m.getModifiers())) {
                seen.add(written(m.getReturnType() + " ", m.getName(), m));
                Check.due(m + " is public", m.getModifiers(), Modifier.PUBLIC);
            }
        }
        Check.due("due is " + due + ", seen " + seen, seen.equals(due) ? 1 : 0, 1);
    }

    private static String written(String answer, String name, Executable member) {
        String thrown = joined(member.getExceptionTypes());
        return answer + name + "(" + joined(member.getParameterTypes()) + ")" + (thrown.isEmpty() ? "" : " throws " + thrown);
    }

    private static String joined(Class<?>[] types) {
        return Arrays.stream(types).map(t -> t.getName().replace("java.lang.", "")).collect(Collectors.joining(", "));
    }

    /** The promises have the face's signatures, one each and all of them. */
    private static void promisesAreOfTheFace() {
        Set<String> promised = new TreeSet<>();
        Document.sections().forEach((title, text) -> {
            if (title.startsWith("Promise ")) {
                promised.add(withoutNames(text.substring(1, text.indexOf("`: "))));
            }
        });
        Check.due("the face " + due() + ", promised " + promised, promised.equals(due()) ? 1 : 0, 1);
    }

    private static void nothingElseIsSeen() {
        for (Field f : MADE.getDeclaredFields()) {
            Check.due(f + " is private", f.getModifiers() & Modifier.PRIVATE, Modifier.PRIVATE);
        }
        for (Class<?> inside : MADE.getDeclaredClasses()) {
            Check.due(inside + " is static", inside.getModifiers() & Modifier.STATIC, Modifier.STATIC);
            Check.due(inside + " is not seen", inside.getModifiers() & (Modifier.PUBLIC | Modifier.PROTECTED), 0);
        }
    }
}
