import java.io.ByteArrayOutputStream;
import java.io.IOException;
import java.io.PrintStream;
import java.lang.reflect.Method;
import java.lang.reflect.Modifier;
import java.net.URL;
import java.net.URLClassLoader;
import java.nio.charset.StandardCharsets;
import java.nio.file.Files;
import java.nio.file.Path;
import java.util.ArrayList;
import java.util.List;
import java.util.TreeSet;
import java.util.stream.Stream;
import javax.tools.ToolProvider;

/** What README.md says of the example, of the calls and of the tests; run beside it. */
public final class ReadmeTest {
    private static final Path TESTS = Path.of("src", "test", "java");
    private static final String PRINTS = "System.out.println(";

    /** The part of a text between two others; the first part of that kind. */
    private static String between(String text, String first, String last) {
        int start = text.indexOf(first);
        int end = start < 0 ? -1 : text.indexOf(last, start + first.length());
        return end < 0 ? "" : text.substring(start + first.length(), end);
    }

    /** The example, as it stands, prints the numbers that its comments tell. */
    private static void example(String readme) throws Exception {
        String program = between(readme, "```java\n", "```");
        List<String> want = new ArrayList<>();
        for (String line : program.split("\n")) {
            if (line.contains(PRINTS)) {
                want.add(between(line, "// ", ":"));
            }
        }
        Due.is("the example prints something", want.isEmpty(), false);
        Path directory = Files.createTempDirectory("readme");
        Due.is("what the example prints", printed(program, directory), want);
        remove(directory);
    }

    private static List<String> printed(String program, Path directory) throws Exception {
        Path source = directory.resolve("Example.java");
        Files.writeString(source, program);
        int exit = ToolProvider.getSystemJavaCompiler().run(null, null, null, "--release", "17",
                "-cp", System.getProperty("java.class.path"), "-d", directory.toString(),
                source.toString());
        Due.is("the exit code of its compiling", exit, 0);
        PrintStream before = System.out;
        ByteArrayOutputStream bytes = new ByteArrayOutputStream();
        try (URLClassLoader loader = new URLClassLoader(new URL[] {directory.toUri().toURL()})) {
            System.setOut(new PrintStream(bytes, true, StandardCharsets.UTF_8));
            loader.loadClass("Example").getMethod("main", String[].class)
                    .invoke(null, (Object) new String[0]);
        } finally {
            System.setOut(before);
        }
        return bytes.toString(StandardCharsets.UTF_8).lines().toList();
    }

    private static void remove(Path directory) throws IOException {
        try (Stream<Path> files = Files.list(directory)) {
            for (Path file : files.toList()) {
                Files.delete(file);
            }
        }
        Files.delete(directory);
    }

    private static void calls(String readme) {
        String told = between(readme, "The calls:", "What they throw:");
        for (Method method : FrameBroker.class.getDeclaredMethods()) {
            if (Modifier.isPublic(method.getModifiers())) {
                String name = "`" + method.getName() + "`";
                Due.is(name + " is told", told.contains(name), true);
            }
        }
        Due.is("NONE is told", told.contains("`NONE`, which is " + FrameBroker.NONE), true);
    }

    /** Each file of the tests is of a kind that is listed, and each kind is there. */
    private static void tests(String readme) throws IOException {
        TreeSet<String> kinds = new TreeSet<>();
        try (Stream<Path> files = Files.list(TESTS)) {
            for (Path file : files.toList()) {
                kinds.add(kind(file.getFileName().toString()));
            }
        }
        TreeSet<String> want = new TreeSet<>(List.of("Due.java", "FaceTest", "LanguageTest",
                "Model.java", "ModelTest", "ReadmeTest"));
        for (int promise = 1; promise <= 20; promise++) {
            want.add(String.format("P%02d...Test", promise));
            want.add(String.format("E%02d...Test", promise));
        }
        for (int part = 1; part <= 9; part++) {
            want.add("T" + part + "...Test");
        }
        Due.is("the kinds of tests", kinds, want);
        String listed = readme.substring(Math.max(0, readme.indexOf("## Tests")));
        for (String name : List.of("Due.java", "FaceTest", "LanguageTest", "Model.java",
                "ModelTest", "ReadmeTest", "P01...Test", "P20...Test", "E01...Test", "E20...Test",
                "T1ScreenTest", "T9CallsTest")) {
            Due.is(name + " is listed", listed.contains("`" + name + "`"), true);
        }
        for (String name : List.of("T1ScreenTest", "T3PagesTest", "T9CallsTest")) {
            Due.is(name + " is there", Files.exists(TESTS.resolve(name + ".java")), true);
        }
    }

    private static String kind(String file) {
        if (file.matches("[PE]\\d\\d[A-Z]\\w*Test\\.java")) {
            return file.substring(0, 3) + "...Test";
        }
        if (file.matches("T\\d[A-Z]\\w*Test\\.java")) {
            return file.substring(0, 2) + "...Test";
        }
        return file.endsWith("Test.java") ? file.substring(0, file.length() - 5) : file;
    }

    public static void main(String[] args) throws Exception {
        String readme = Files.readString(Path.of("README.md"));
        example(readme);
        calls(readme);
        tests(readme);
        Due.end();
    }
}
