import java.lang.reflect.Constructor;
import java.lang.reflect.Field;
import java.lang.reflect.Method;
import java.lang.reflect.Modifier;
import java.util.Arrays;
import java.util.Set;
import java.util.TreeSet;

/** The public face is the document's, to the letter, and nothing else can be seen from outside. */
public final class FaceTest {
    private static final String[] FACE = {
        "int insert(int, int) throws IndexOutOfBoundsException, IllegalArgumentException, IllegalStateException",
        "int remove(int) throws IndexOutOfBoundsException",
        "int get(int) throws IndexOutOfBoundsException",
        "int set(int, int) throws IndexOutOfBoundsException, IllegalArgumentException",
        "int reverse(int, int) throws IndexOutOfBoundsException",
        "int raise(int, int, int) throws IndexOutOfBoundsException, IllegalArgumentException",
        "int sum(int, int) throws IndexOutOfBoundsException",
        "int least(int, int) throws IndexOutOfBoundsException, IllegalArgumentException",
        "int cut(int, int) throws IndexOutOfBoundsException, IllegalStateException",
        "int paste(int) throws IndexOutOfBoundsException",
        "int point(int, int) throws IndexOutOfBoundsException",
        "int follow(int) throws IndexOutOfBoundsException",
        "int move(int, int) throws IndexOutOfBoundsException, IllegalStateException",
        "int lastSteps()",
        "int lastRotations()",
        "int steps()",
        "int splays()",
        "int potential()",
        "int size()",
        "int clipped()",
        "int root()",
        "int height()",
        "int depth(int) throws IndexOutOfBoundsException",
        "int subtree(int) throws IndexOutOfBoundsException",
        "int child(int, boolean) throws IndexOutOfBoundsException",
        "int whereIs(int) throws IndexOutOfBoundsException",
        "int plain(int) throws IndexOutOfBoundsException",
        "int plainSum(int, int) throws IndexOutOfBoundsException",
    };

    private static final Checks CHECKS = new Checks();

    public static void main(String[] args) {
        publicFace();
        privateRest(SplaySequence.class);
        for (Class<?> inside : SplaySequence.class.getDeclaredClasses()) {
            CHECKS.is(0, inside + " is static", Modifier.isStatic(inside.getModifiers()) ? 1 : 0, 1);
            CHECKS.is(0, inside + " is hidden", inside.getModifiers() & (Modifier.PUBLIC | Modifier.PROTECTED), 0);
            privateNames(inside);
            staticFieldsAreFinal(inside);
        }
        CHECKS.end("FaceTest");
    }

    private static void publicFace() {
        CHECKS.is(0, "the class's modifiers", SplaySequence.class.getModifiers(), Modifier.PUBLIC | Modifier.FINAL);
        Constructor<?>[] makers = SplaySequence.class.getDeclaredConstructors();
        CHECKS.is(0, "the number of constructors", makers.length, 1);
        CHECKS.isText(0, "the constructor", makers[0].toGenericString(), "public SplaySequence()");
        Set<String> found = new TreeSet<>();
        for (Method method : SplaySequence.class.getDeclaredMethods()) {
            if (Modifier.isPublic(method.getModifiers())) {
                found.add(written(method));
            }
        }
        CHECKS.isText(0, "the public methods", String.join("\n", found),
                String.join("\n", new TreeSet<>(Arrays.asList(FACE))));
    }

    private static String written(Method method) {
        return method.toGenericString().replace("public ", "").replace("SplaySequence.", "")
                .replace("java.lang.", "").replace(",", ", ");
    }

    private static void privateRest(Class<?> type) {
        for (Method method : type.getDeclaredMethods()) {
            int seen = method.getModifiers() & (Modifier.PUBLIC | Modifier.PRIVATE);
            CHECKS.is(0, method + " is public or private", seen == 0 ? 0 : 1, 1);
        }
        for (Field field : type.getDeclaredFields()) {
            CHECKS.is(0, field + " is private", Modifier.isPrivate(field.getModifiers()) ? 1 : 0, 1);
        }
        privateNames(type);
        staticFieldsAreFinal(type);
    }

    private static void privateNames(Class<?> type) {
        for (Method method : type.getDeclaredMethods()) {
            boolean taken = false;
            for (String written : FACE) {
                taken = taken || written.startsWith("int " + method.getName() + "(");
            }
            boolean ofTheFace = type == SplaySequence.class && Modifier.isPublic(method.getModifiers());
            CHECKS.is(0, method + " bears a public name", taken && !ofTheFace ? 1 : 0, 0);
        }
    }

    private static void staticFieldsAreFinal(Class<?> type) {
        for (Field field : type.getDeclaredFields()) {
            int modifiers = field.getModifiers();
            boolean changes = Modifier.isStatic(modifiers) && !Modifier.isFinal(modifiers);
            CHECKS.is(0, field + " is static and not final", changes ? 1 : 0, 0);
        }
    }
}
