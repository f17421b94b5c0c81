import java.io.ByteArrayOutputStream;
import java.io.IOException;
import java.io.PrintStream;
import java.net.URL;
import java.net.URLClassLoader;
import java.nio.file.Files;
import java.nio.file.Path;
import java.util.ArrayList;
import java.util.List;
import java.util.TreeSet;
import java.util.regex.Matcher;
import java.util.regex.Pattern;
import java.util.stream.Stream;
import javax.tools.ToolProvider;

/** What README.md shows compiles and prints what stands behind it, and it names what is there. */
public final class ReadmeTest {
    private static final Pattern EXAMPLE = Pattern.compile("```java\n(.*?)```", Pattern.DOTALL);
    private static final Pattern PRINTED = Pattern.compile("System\\.out\\.println\\(.*\\); +// ([^:\n]+)");
    private static final Pattern NAME_OF_TEST = Pattern.compile("`(\\w+Test)`");
    private static final Pattern CALL_OF_FACE = Pattern.compile("\\| `(\\w+)\\([\\w, ]*\\)` \\|");
    private static final Pattern CLASS_INSIDE = Pattern.compile("\n- `(\\w+)` (?:is|tells|has|knows|does) ");

    public static void main(String[] args) throws Exception {
        String readme = Files.readString(Path.of("README.md"));
        int examples = 0;
        Matcher example = EXAMPLE.matcher(readme);
        while (example.find()) {
            examples++;
            checkExample("example " + examples, example.group(1));
        }
        Check.same("examples", examples, 2);
        Check.same("tests that are named", found(NAME_OF_TEST, readme), testsThatAreThere());
        Check.same("calls that are told", found(CALL_OF_FACE, readme), callsOfTheFace());
        Check.same("classes that are told", found(CLASS_INSIDE, readme), classesInside());
        Check.finish();
    }

    private static void checkExample(String what, String lines) throws Exception {
        List<String> due = new ArrayList<>();
        Matcher printed = PRINTED.matcher(lines);
        while (printed.find()) {
            due.add(printed.group(1).strip());
        }
        Check.same(what + " prints something", due.isEmpty(), false);
        Check.same(what, printedBy(lines), due);
    }

    private static List<String> printedBy(String lines) throws Exception {
        Path directory = Files.createTempDirectory("readme");
        Path source = directory.resolve("Example.java");
        Files.writeString(source, "public final class Example {\n    public static void main(String[] args) {\n"
            + lines + "    }\n}\n");
        int failed = ToolProvider.getSystemJavaCompiler().run(null, null, null, "-Xlint:all", "-Werror",
            "-cp", System.getProperty("java.class.path"), "-d", directory.toString(), source.toString());
        List<String> answer = failed == 0 ? outputOf(directory) : List.of("doesn't compile");
        deleteAll(directory);
        return answer;
    }

    private static List<String> outputOf(Path directory) throws Exception {
        PrintStream before = System.out;
        ByteArrayOutputStream output = new ByteArrayOutputStream();
        try (URLClassLoader loader = new URLClassLoader(new URL[] {directory.toUri().toURL()});
                PrintStream caught = new PrintStream(output)) {
            System.setOut(caught);
            loader.loadClass("Example").getMethod("main", String[].class).invoke(null, (Object) new String[0]);
        } finally {
            System.setOut(before);
        }
        return output.toString().lines().toList();
    }

    private static void deleteAll(Path directory) throws IOException {
        try (Stream<Path> files = Files.list(directory)) {
            for (Path file : files.toList()) {
                Files.delete(file);
            }
        }
        Files.delete(directory);
    }

    private static TreeSet<String> found(Pattern pattern, String text) {
        TreeSet<String> names = new TreeSet<>();
        Matcher matcher = pattern.matcher(text);
        while (matcher.find()) {
            names.add(matcher.group(1));
        }
        return names;
    }

    private static TreeSet<String> testsThatAreThere() throws IOException {
        TreeSet<String> names = new TreeSet<>();
        try (Stream<Path> files = Files.list(Path.of("src/test/java"))) {
            for (Path file : files.toList()) {
                String name = file.getFileName().toString();
                if (name.endsWith("Test.java")) {
                    names.add(name.substring(0, name.length() - ".java".length()));
                }
            }
        }
        return names;
    }

    private static TreeSet<String> callsOfTheFace() {
        TreeSet<String> names = new TreeSet<>();
        for (java.lang.reflect.Method method : TrimmedMachine.class.getMethods()) {
            if (method.getDeclaringClass() == TrimmedMachine.class) {
                names.add(method.getName());
            }
        }
        return names;
    }

    private static TreeSet<String> classesInside() {
        TreeSet<String> names = new TreeSet<>();
        for (Class<?> inside : TrimmedMachine.class.getDeclaredClasses()) {
            names.add(inside.getSimpleName());
        }
        return names;
    }
}
