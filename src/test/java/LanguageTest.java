import java.io.IOException;
import java.lang.reflect.Executable;
import java.lang.reflect.Field;
import java.lang.reflect.Method;
import java.lang.reflect.Modifier;
import java.nio.file.Files;
import java.nio.file.Path;
import java.util.ArrayList;
import java.util.List;
import java.util.TreeSet;
import java.util.regex.Matcher;
import java.util.regex.Pattern;

/** The rules of LANGUAGE.md, as far as the class's members and its text can tell. */
public final class LanguageTest {
    private static final Path SOURCE = Path.of("src", "main", "java", "FrameBroker.java");

    /** Words and signs that the rules leave out, or that this class has no need of. */
    private static final String[] RULED_OUT = {"\\bimport\\b", "\\bpackage\\b", "\\bprotected\\b",
        "\\btry\\b", "\\bcatch\\b", "\\bfinally\\b", "\\bsynchronized\\b", "\\bassert\\b",
        "\\bvolatile\\b", "\\bnative\\b", "->", "::", "\\bjava\\.", "\\bSystem\\b", "\\bThread\\b",
        "\\bfloat\\b", "\\bdouble\\b", "\\bObject\\b", "\\bextends\\b", "\\binstanceof\\b",
        "\\bequals\\b", "\\bhashCode\\b", "\\btoString\\b", "\\bstatic\\s*\\{", "\"\\s*\\+",
        "\\+\\s*\"", "\\bwhile\\s*\\(\\s*true", "for\\s*\\(\\s*;"};

    private static List<Class<?>> classes() {
        List<Class<?>> all = new ArrayList<>(List.of(FrameBroker.class.getDeclaredClasses()));
        all.add(FrameBroker.class);
        return all;
    }

    private static void face() {
        Due.says("rule 1: no private method bears the name of a public one");
        TreeSet<String> open = new TreeSet<>();
        TreeSet<String> hidden = new TreeSet<>();
        for (Method method : FrameBroker.class.getDeclaredMethods()) {
            (Modifier.isPublic(method.getModifiers()) ? open : hidden).add(method.getName());
        }
        open.retainAll(hidden);
        Due.is("the names of both", open, new TreeSet<String>());
        Due.says("rule 1: the classes inside are private or package-visible, and static");
        for (Class<?> inside : FrameBroker.class.getDeclaredClasses()) {
            int kind = inside.getModifiers();
            Due.is(inside.getSimpleName() + " is static", Modifier.isStatic(kind), true);
            Due.is(inside.getSimpleName() + " is public or protected",
                    Modifier.isPublic(kind) || Modifier.isProtected(kind), false);
        }
    }

    private static void fields() {
        Due.says("rule 5: static fields are final: constants");
        for (Class<?> each : classes()) {
            for (Field field : each.getDeclaredFields()) {
                if (Modifier.isStatic(field.getModifiers())) {
                    Due.is(field + " is a final int", Modifier.isFinal(field.getModifiers())
                            && field.getType() == int.class, true);
                }
            }
        }
        Due.says("rule 11: a class has some twenty fields beside its constants");
        for (Class<?> each : classes()) {
            int count = 0;
            for (Field field : each.getDeclaredFields()) {
                count += Modifier.isStatic(field.getModifiers()) ? 0 : 1;
            }
            Due.is("the fields of " + each.getSimpleName() + " are too many", count > 20, false);
        }
    }

    private static void sizes(List<String> lines) {
        Due.says("rule 11: a method takes at most seven parameters");
        for (Class<?> each : classes()) {
            List<Executable> all = new ArrayList<>(List.of(each.getDeclaredMethods()));
            all.addAll(List.of(each.getDeclaredConstructors()));
            for (Executable one : all) {
                Due.is(one + " takes too many", one.getParameterCount() > 7, false);
            }
        }
        Due.says("rule 11: the file has at most some twelve classes");
        Due.is("the classes are too many", classes().size() > 12, false);
        Due.says("rule 11: methods stay short");
        int start = 0;
        for (int line = 0; line < lines.size(); line++) {
            if (lines.get(line).matches(" {4}( {4})?\\S.*\\{")) {
                start = line;
            }
            Due.is("line " + (line + 1) + " is far behind its method's head", line - start > 60,
                    false);
        }
    }

    private static void text(String whole) {
        Due.says("rule 4: signs are 1 to 127");
        Due.is("other signs", Pattern.compile("[^\\n\\x20-\\x7e]").matcher(whole).find(), false);
        // What a comment or a written text says is no program.
        String program = whole.replaceAll("(?s)/\\*.*?\\*/", "").replaceAll("//.*", "")
                .replaceAll("\"[^\"\\n]*\"", "\"\"");
        Due.says("words and signs that the rules leave out");
        for (String word : RULED_OUT) {
            Matcher found = Pattern.compile(word).matcher(program);
            Due.is(word, found.find() ? found.group() : "", "");
        }
        Due.says("rule 6: throw new E(\"a written text\")");
        Matcher thrown = Pattern.compile("\\bthrow\\b[^;]*;").matcher(program);
        while (thrown.find()) {
            Due.is(thrown.group(), thrown.group().matches("throw new (IllegalArgumentException"
                    + "|IllegalStateException|IndexOutOfBoundsException)\\(\"\"\\);"), true);
        }
    }

    public static void main(String[] args) throws IOException {
        face();
        fields();
        sizes(Files.readAllLines(SOURCE));
        text(Files.readString(SOURCE));
        Due.end();
    }
}
