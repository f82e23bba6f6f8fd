import java.lang.reflect.Constructor;
import java.lang.reflect.Field;
import java.lang.reflect.Method;
import java.lang.reflect.Modifier;
import java.util.Set;
import java.util.TreeSet;

/** The class has the document's face, with its exceptions, and nothing else that others can see. */
public final class FaceTest {
    private static final Set<String> FACE = Set.of(
        "public void run(int) throws java.lang.IllegalArgumentException",
        "public int count(int,int) throws java.lang.IndexOutOfBoundsException",
        "public int time()",
        "public int register(int) throws java.lang.IndexOutOfBoundsException",
        "public int entries()",
        "public int entry(int,int) throws java.lang.IndexOutOfBoundsException,java.util.NoSuchElementException",
        "public int link()",
        "public int put(int) throws java.lang.IllegalArgumentException,java.lang.IllegalStateException",
        "public int putInt(int) throws java.lang.IllegalStateException",
        "public void poke(int,int) throws java.lang.IndexOutOfBoundsException,java.lang.IllegalArgumentException",
        "public int frame(int) throws java.lang.IllegalArgumentException,java.lang.IllegalStateException",
        "public int ask() throws java.lang.IllegalStateException",
        "public void clear()",
        "public int deliver(boolean)",
        "public int reply(int) throws java.lang.IndexOutOfBoundsException");

    public static void main(String[] args) {
        Class<LoadProfileMeter> c = LoadProfileMeter.class;
        Check.due("modifiers of the class", c.getModifiers(), Modifier.PUBLIC | Modifier.FINAL);
        Set<String> seen = new TreeSet<>();
        for (Method m : c.getDeclaredMethods()) {
            if (!Modifier.isPrivate(m.getModifiers())) {
                seen.add(m.toGenericString().replace("LoadProfileMeter.", ""));
            }
        }
        Check.due("as many methods as in the face, seen " + seen, seen.size(), FACE.size());
        Check.due("methods of the face, seen " + seen, seen.equals(FACE) ? 1 : 0, 1);
        Constructor<?>[] made = c.getDeclaredConstructors();
        Check.due("constructors", made.length, 1);
        Check.due("the constructor is the face's",
            made[0].toString().equals("public LoadProfileMeter(int,int)") ? 1 : 0, 1);
        for (Field f : c.getDeclaredFields()) {
            Check.due(f + " is private", f.getModifiers() & Modifier.PRIVATE, Modifier.PRIVATE);
        }
        for (Class<?> inside : c.getDeclaredClasses()) {
            Check.due(inside + " is static", inside.getModifiers() & Modifier.STATIC, Modifier.STATIC);
        }
        Check.end();
    }
}
