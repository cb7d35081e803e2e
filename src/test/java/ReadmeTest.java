import java.io.IOException;
import java.lang.reflect.InvocationTargetException;
import java.net.URL;
import java.net.URLClassLoader;
import java.nio.file.Files;
import java.nio.file.Path;
import java.util.ArrayList;
import java.util.List;
import java.util.regex.Matcher;
import java.util.regex.Pattern;
import javax.tools.JavaCompiler;
import javax.tools.ToolProvider;

/** README.md: its examples answer what the remark behind each call says, and it tells every call of the face. */
public final class ReadmeTest {
    private static final Path README = Path.of("README.md"), DOCUMENT = Path.of("../shared/DOC.md");
    private static final Pattern CALL =
        Pattern.compile("(?:int (\\w+) = )?((?:court\\.\\w+|law)\\(.*\\)); +// (-?\\d+|[A-Z]+)\\b.*");

    private static int wrong = 0;
    private static int asked = 0;

    private ReadmeTest() {
    }

    private static void fail(String what) {
        wrong++;
        System.out.println(what);
    }

    /** The examples call this: is the answer the one that the README tells? */
    public static void due(String line, int got, int want) {
        asked++;
        if (got != want) fail(line + "\n  answered " + got);
    }

    private static String named(String answer) {
        return answer.matches("-?\\d+") ? answer : "DayFines." + answer;
    }

    private static String asTest(String line) {
        Matcher call = CALL.matcher(line);
        if (!call.matches()) return line + "\n";
        String text = line.replace("\\", "\\\\").replace("\"", "\\\"");
        String got = call.group(1) == null ? call.group(2) : call.group(1);
        String ahead = call.group(1) == null ? "" : "int " + call.group(1) + " = " + call.group(2) + ";\n";
        return ahead + "ReadmeTest.due(\"" + text + "\", " + got + ", " + named(call.group(3)) + ");\n";
    }

    /** All examples as one class: what begins with static stands beside its method, the rest in it. */
    private static String example(String readme) {
        StringBuilder beside = new StringBuilder();
        StringBuilder within = new StringBuilder();
        Matcher block = Pattern.compile("(?s)```java\n(.*?)```").matcher(readme);
        while (block.find()) {
            if (block.group(1).startsWith("static")) beside.append(block.group(1));
            else for (String line : block.group(1).split("\n")) within.append(asTest(line));
        }
        return "public final class Example {\n" + beside + "public static void run() {\n" + within + "}\n}\n";
    }

    private static void runExample(String readme) throws IOException, ReflectiveOperationException {
        Path folder = Files.createTempDirectory("readme");
        Path source = folder.resolve("Example.java");
        Files.writeString(source, example(readme));
        JavaCompiler compiler = ToolProvider.getSystemJavaCompiler();
        String[] options = {"-cp", System.getProperty("java.class.path"), "-d", folder.toString(), source.toString()};
        if (compiler == null || compiler.run(null, null, null, options) != 0) {
            fail("the examples can't be compiled");
        } else {
            try (URLClassLoader loader = new URLClassLoader(new URL[] {folder.toUri().toURL()})) {
                loader.loadClass("Example").getMethod("run").invoke(null);
            } catch (InvocationTargetException e) {
                fail("the examples threw " + e.getCause());
            }
        }
        for (String name : List.of("Example.class", "Example.java", "")) Files.deleteIfExists(folder.resolve(name));
    }

    private static void tellsAll(String readme, String document) {
        List<String> missing = new ArrayList<>();
        Matcher method = Pattern.compile("public int (\\w+\\([^)]*\\));").matcher(document);
        int methods = 0;
        while (method.find()) {
            methods++;
            String row = "| `" + method.group(1).replace("int ", "") + "` |";
            if (!readme.contains(row)) missing.add(row);
        }
        if (methods == 0 || !missing.isEmpty()) fail("not told: " + missing);
    }

    public static void main(String[] args) throws IOException, ReflectiveOperationException {
        String readme = Files.readString(README);
        runExample(readme);
        tellsAll(readme, Files.readString(DOCUMENT));
        if (asked < 20) fail("only " + asked + " answers of the examples were looked at");
        System.out.println(asked + " answers of README.md, " + wrong + " faults");
        if (wrong != 0) System.exit(1);
    }
}
