import java.lang.reflect.Constructor;
import java.lang.reflect.Field;
import java.lang.reflect.Method;
import java.lang.reflect.Modifier;
import java.util.TreeSet;

/**
 * The public face: its members with their signatures and the exceptions that they declare, in
 * their order, and nothing beside them.
 */
public final class FaceTest {
    private static final String ARGUMENT = "IllegalArgumentException";
    private static final String STATE = "IllegalStateException";
    private static final String INDEX = "IndexOutOfBoundsException";

    private static final String[] CALLS = {
        "int open(int, int, int, int, boolean, int, int) throws " + ARGUMENT + ", " + STATE,
        "int close(int) throws " + INDEX,
        "void move(int, int, int) throws " + INDEX + ", " + ARGUMENT,
        "int lay(int, boolean) throws " + INDEX,
        "int advance(int) throws " + ARGUMENT + ", " + STATE,
        "int input(int, int) throws " + INDEX,
        "int show()",
        "int tick()",
        "int windows()",
        "int free()",
        "int damage()",
        "int at(int, int) throws " + INDEX,
        "int placeOf(int) throws " + INDEX,
        "boolean isSeen(int) throws " + INDEX,
        "int pagesOf(int) throws " + INDEX,
        "int picture(int) throws " + INDEX,
        "int pace(int) throws " + INDEX,
        "int misses(int) throws " + INDEX,
        "int deadline(int) throws " + INDEX,
    };

    public static void main(String[] args) {
        Class<?> face = FrameBroker.class;
        Due.is("NONE", FrameBroker.NONE, -1);
        Due.is("the class is public and final", face.getModifiers(),
                Modifier.PUBLIC | Modifier.FINAL);
        TreeSet<String> want = new TreeSet<>();
        for (String call : CALLS) {
            want.add("public " + call);
        }
        want.add("public FrameBroker()");
        want.add("public static final int NONE");
        TreeSet<String> got = new TreeSet<>();
        for (Method method : face.getDeclaredMethods()) {
            if (!Modifier.isPrivate(method.getModifiers()) && !method.isSynthetic()) {
                got.add(told(method));
            }
        }
        for (Constructor<?> constructor : face.getDeclaredConstructors()) {
            got.add(constructor.toString());
        }
        for (Field field : face.getDeclaredFields()) {
            if (!Modifier.isPrivate(field.getModifiers())) {
                got.add(Modifier.toString(field.getModifiers()) + " " + field.getType() + " "
                        + field.getName());
            }
        }
        Due.is("the members that are not private", got, want);
        Due.end();
    }

    private static String told(Method method) {
        StringBuilder text = new StringBuilder();
        text.append(Modifier.toString(method.getModifiers())).append(' ');
        text.append(method.getReturnType()).append(' ').append(method.getName()).append('(');
        text.append(listed(method.getParameterTypes())).append(')');
        Class<?>[] thrown = method.getExceptionTypes();
        if (thrown.length > 0) {
            text.append(" throws ").append(listed(thrown));
        }
        return text.toString();
    }

    private static String listed(Class<?>[] kinds) {
        StringBuilder text = new StringBuilder();
        for (int i = 0; i < kinds.length; i++) {
            text.append(i == 0 ? "" : ", ").append(kinds[i].getSimpleName());
        }
        return text.toString();
    }
}
