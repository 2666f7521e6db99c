import java.io.IOException;
import java.lang.reflect.InvocationTargetException;
import java.lang.reflect.Method;
import java.lang.reflect.Modifier;
import java.net.URL;
import java.net.URLClassLoader;
import java.nio.file.Files;
import java.nio.file.Path;
import java.util.ArrayList;
import java.util.Comparator;
import java.util.List;
import java.util.regex.Matcher;
import java.util.regex.Pattern;
import java.util.stream.Stream;
import javax.tools.JavaCompiler;
import javax.tools.ToolProvider;

/**
 * The examples of README.md: a program is made of them in which each call is compared with the
 * answer that stands behind it, so that what is tested is what the page shows.
 */
public final class ReadmeTests {
    private static final Path README = Path.of("README.md");
    private static final Path TESTS = Path.of("src/test/java");
    private static final String EXAMPLES = "ReadmeExamples";
    private static final Pattern EXAMPLE = Pattern.compile("(?ms)^```java\n(.*?)^```$");
    private static final Pattern CALL_WITH_ANSWER = Pattern.compile(
            "(x\\.(\\w+)\\(.*?\\)); +// (?:(-?\\d[0-9a-b.]*)|([A-Z_]+))(?:,.*)?");
    private static int answers = 0;
    private static int wrong = 0;

    private ReadmeTests() {
    }

    private static void fail(String what) {
        wrong++;
        System.out.println(what);
    }

    /** Called by the program that is made of the examples. */
    public static void due(int example, String call, double got, double want) {
        answers++;
        if (got != want) {
            fail("example " + example + ": " + call + " answered " + got + ", README.md says " + want);
        }
    }

    private static List<String> examples(String page) {
        List<String> found = new ArrayList<>();
        Matcher example = EXAMPLE.matcher(page);
        while (example.find()) {
            found.add(example.group(1));
        }
        return found;
    }

    /** The line as it stands in the program that is made; a comment must be an answer. */
    private static String checked(int example, String line) {
        Matcher call = CALL_WITH_ANSWER.matcher(line);
        if (call.matches()) {
            String want = call.group(3) != null ? call.group(3) : "PlanarityTester." + call.group(4);
            String name = call.group(1).replace("\"", "\\\"");
            return "ReadmeTests.due(" + example + ", \"" + name + "\", " + call.group(1) + ", " + want
                    + ");";
        }
        if (line.contains("//") || line.startsWith("x.")) {
            fail("example " + example + " tells no answer in the line: " + line);
        }
        return line;
    }

    private static String programOf(List<String> examples) {
        StringBuilder program = new StringBuilder("public final class " + EXAMPLES + " {\n");
        StringBuilder main = new StringBuilder("public static void main(String[] args) {\n");
        for (int i = 0; i < examples.size(); i++) {
            int number = i + 1;
            main.append("example").append(number).append("();\n");
            program.append("static void example").append(number).append("() {\n");
            for (String line : examples.get(i).split("\n")) {
                program.append(checked(number, line)).append('\n');
            }
            program.append("}\n");
        }
        return program.append(main).append("}\n}\n").toString();
    }

    private static void carryOut(String program) throws IOException {
        JavaCompiler compiler = ToolProvider.getSystemJavaCompiler();
        Path folder = Files.createTempDirectory("readme");
        try {
            Path source = folder.resolve(EXAMPLES + ".java");
            Files.writeString(source, program);
            int code = compiler.run(null, System.out, System.out, "-d", folder.toString(), "-cp",
                    System.getProperty("java.class.path"), source.toString());
            if (code == 0) {
                runFrom(folder);
            } else {
                fail("the examples do not compile");
            }
        } finally {
            remove(folder);
        }
    }

    private static void runFrom(Path folder) throws IOException {
        URL[] places = {folder.toUri().toURL()};
        try (URLClassLoader loader = new URLClassLoader(places, ReadmeTests.class.getClassLoader())) {
            Method main = loader.loadClass(EXAMPLES).getMethod("main", String[].class);
            main.invoke(null, (Object) new String[0]);
        } catch (InvocationTargetException e) {
            fail("the examples throw " + e.getCause());
        } catch (ReflectiveOperationException e) {
            fail("the examples can not be run: " + e);
        }
    }

    private static void remove(Path folder) throws IOException {
        List<Path> found;
        try (Stream<Path> all = Files.walk(folder)) {
            found = all.sorted(Comparator.reverseOrder()).toList();
        }
        for (Path path : found) {
            Files.delete(path);
        }
    }

    private static void checkThatEachCallIsShown(List<String> examples) {
        List<String> shown = new ArrayList<>();
        for (String example : examples) {
            for (String line : example.split("\n")) {
                Matcher call = CALL_WITH_ANSWER.matcher(line);
                if (call.matches()) {
                    shown.add(call.group(2));
                }
            }
        }
        for (Method method : PlanarityTester.class.getDeclaredMethods()) {
            if (Modifier.isPublic(method.getModifiers()) && !shown.contains(method.getName())) {
                fail("README.md shows no answer of " + method.getName());
            }
        }
    }

    private static void checkThatEachTestIsNamed(String page) throws IOException {
        try (Stream<Path> all = Files.list(TESTS)) {
            for (Path path : all.toList()) {
                String name = path.getFileName().toString().replace(".java", "");
                if (!page.contains("`" + name + "`")) {
                    fail("README.md does not name the test " + name);
                }
            }
        }
    }

    private static void checkFilesThatAreNamed(String page) {
        Matcher file = Pattern.compile("[\\w./]*/\\w+\\.(java|md)\\b|\\.ci/run").matcher(page);
        while (file.find()) {
            if (!Files.exists(Path.of(file.group()))) {
                fail("README.md names a file that is not there: " + file.group());
            }
        }
    }

    public static void main(String[] args) throws IOException {
        String page = Files.readString(README);
        List<String> examples = examples(page);
        carryOut(programOf(examples));
        checkThatEachCallIsShown(examples);
        checkThatEachTestIsNamed(page);
        checkFilesThatAreNamed(page);
        System.out.println(examples.size() + " examples, " + answers + " answers, " + wrong + " wrong");
        if (wrong != 0) {
            System.exit(1);
        }
    }
}
