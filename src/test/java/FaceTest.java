import java.lang.reflect.Constructor;
import java.lang.reflect.Field;
import java.lang.reflect.Method;
import java.lang.reflect.Modifier;
import java.util.TreeSet;

/** The public face: its members with their signatures, and nothing beside them. */
public final class FaceTest {
    private static final String[] CALLS = {
        "int open(int, int, int, int, boolean, int, int)",
        "int close(int)",
        "void move(int, int, int)",
        "int lay(int, boolean)",
        "int advance(int)",
        "int input(int, int)",
        "int show()",
        "int tick()",
        "int windows()",
        "int free()",
        "int damage()",
        "int at(int, int)",
        "int placeOf(int)",
        "boolean isSeen(int)",
        "int pagesOf(int)",
        "int picture(int)",
        "int pace(int)",
        "int misses(int)",
        "int deadline(int)",
    };

    public static void main(String[] args) {
        Class<?> face = FrameBroker.class;
        Due.is("NONE", FrameBroker.NONE, -1);
        Due.is("the class is public and final", face.getModifiers(),
                Modifier.PUBLIC | Modifier.FINAL);
        TreeSet<String> want = new TreeSet<>();
        for (String call : CALLS) {
            want.add("public " + call);
        }
        want.add("public FrameBroker()");
        want.add("public static final int NONE");
        TreeSet<String> got = new TreeSet<>();
        for (Method method : face.getDeclaredMethods()) {
            if (!Modifier.isPrivate(method.getModifiers()) && !method.isSynthetic()) {
                got.add(told(method));
            }
        }
        for (Constructor<?> constructor : face.getDeclaredConstructors()) {
            got.add(constructor.toString());
        }
        for (Field field : face.getDeclaredFields()) {
            if (!Modifier.isPrivate(field.getModifiers())) {
                got.add(Modifier.toString(field.getModifiers()) + " " + field.getType() + " "
                        + field.getName());
            }
        }
        Due.is("the members that are not private", got, want);
        Due.end();
    }

    private static String told(Method method) {
        StringBuilder text = new StringBuilder();
        text.append(Modifier.toString(method.getModifiers())).append(' ');
        text.append(method.getReturnType()).append(' ').append(method.getName()).append('(');
        Class<?>[] kinds = method.getParameterTypes();
        for (int i = 0; i < kinds.length; i++) {
            text.append(i == 0 ? "" : ", ").append(kinds[i]);
        }
        return text.append(')').toString();
    }
}
