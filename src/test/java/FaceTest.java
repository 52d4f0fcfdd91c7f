import java.lang.reflect.Field;
import java.lang.reflect.Method;
import java.lang.reflect.Modifier;
import java.util.Set;
import java.util.TreeSet;

/** The public face: what the document lists, with what each call may throw, and nothing else that can be seen. */
final class FaceTest {
    private static final Set<String> FACE = Set.of(
            "int furnish(int, int, int) throws IllegalArgumentException, IllegalStateException",
            "int door(int, int) throws IndexOutOfBoundsException, IllegalArgumentException, IllegalStateException",
            "int haunt(int, int, int, int)"
                    + " throws IndexOutOfBoundsException, IllegalArgumentException, IllegalStateException",
            "int at(int, int) throws IndexOutOfBoundsException",
            "int haunting(int, int) throws IndexOutOfBoundsException",
            "int room(int, int) throws IndexOutOfBoundsException",
            "int come(int, int, int) throws IllegalArgumentException, IllegalStateException",
            "boolean bid(int, int, int) throws IndexOutOfBoundsException, IllegalArgumentException",
            "int leave(int) throws IndexOutOfBoundsException",
            "int guest(int, int) throws IndexOutOfBoundsException",
            "int wins(int, int) throws IndexOutOfBoundsException",
            "int night()",
            "int count(int) throws IndexOutOfBoundsException",
            "int best(int) throws IndexOutOfBoundsException",
            "int most()",
            "int scares(int) throws IndexOutOfBoundsException",
            "double mean()",
            "long digest()");

    public static void main(String[] args) {
        Class<?> inn = GhostInn.class;
        Check.equal("public and final", "public final", Modifier.toString(inn.getModifiers()));
        Check.equal("constructors", 1, inn.getDeclaredConstructors().length);
        Check.equal("the constructor", "public GhostInn()", inn.getDeclaredConstructors()[0].toString());
        Set<String> seen = new TreeSet<>();
        for (Method method : inn.getDeclaredMethods()) {
            if (!Modifier.isPrivate(method.getModifiers())) {
                seen.add(faceOf(method));
            }
        }
        Check.equal("the methods", new TreeSet<>(FACE).toString(), seen.toString());
        for (Field field : inn.getDeclaredFields()) {
            Check.equal(field + " is private", true, Modifier.isPrivate(field.getModifiers()));
        }
        Check.end();
    }

    private static String faceOf(Method method) {
        String all = method.toString();
        String plain = all.substring(all.startsWith("public ") ? "public ".length() : 0);
        return plain.replace("GhostInn.", "").replace("java.lang.", "").replace(",", ", ");
    }
}
