import java.lang.reflect.Constructor;
import java.lang.reflect.Field;
import java.lang.reflect.Method;
import java.lang.reflect.Modifier;
import java.util.Arrays;
import java.util.TreeSet;

/** The public face: what the document names, and no other member that is not private. */
final class FaceTest {
    private static final String[] FACE = {
        "int feed[int, int, int, int, int]", "int read[int, int]", "int place[]", "int many[int, int]",
        "int byteAt[int, int]", "int look[int, int, int]", "long number[int, int]",
        "int letter[int, int, boolean, int]", "int find[int, int, int]", "int add[int, int, int, long, int, int]",
        "int graft[int, int, int, int, int]", "boolean set[int, int, long]", "boolean drop[int, int]"};

    public static void main(String[] args) {
        Class<DocumentBytes> c = DocumentBytes.class;
        Check.due("public and final", Modifier.isPublic(c.getModifiers()) && Modifier.isFinal(c.getModifiers()), true);
        TreeSet<String> seen = new TreeSet<>();
        for (Method m : c.getDeclaredMethods()) {
            if (!Modifier.isPrivate(m.getModifiers())) {
                seen.add(m.getReturnType() + " " + m.getName() + Arrays.toString(m.getParameterTypes()));
                Check.due(m + " is public", Modifier.isPublic(m.getModifiers()), true);
            }
        }
        for (String s : FACE) {
            Check.due("there is " + s, seen.remove(s), true);
        }
        Check.due("other methods " + seen, seen.size(), 0);
        Check.due("constructors", c.getDeclaredConstructors().length, 1);
        for (Constructor<?> k : c.getDeclaredConstructors()) {
            Check.due("constructor " + k, Modifier.isPublic(k.getModifiers()) && k.getParameterCount() == 0, true);
        }
        for (Field f : c.getDeclaredFields()) {
            Check.due("field " + f + " is private", Modifier.isPrivate(f.getModifiers()), true);
            Check.due("static field " + f + " is final",
                    !Modifier.isStatic(f.getModifiers()) || Modifier.isFinal(f.getModifiers()), true);
        }
        Check.finish();
    }
}
