import java.io.IOException;
import java.lang.reflect.Method;
import java.lang.reflect.Modifier;
import java.net.URL;
import java.net.URLClassLoader;
import java.nio.file.DirectoryStream;
import java.nio.file.Files;
import java.nio.file.Path;
import java.util.ArrayList;
import java.util.List;
import java.util.Set;
import java.util.TreeSet;
import java.util.regex.Matcher;
import java.util.regex.Pattern;
import javax.tools.JavaCompiler;
import javax.tools.ToolProvider;

/**
 * README.md says what is so: its example is compiled and run as it stands there, and each comment
 * that begins with a number or with an exception's name is what the call must answer.
 */
public final class ReadmeTest {
    private static final String EXAMPLE = "ReadmeExample";
    /** What a line declares (if it does), its call, the call's name, its comment (if it has one). */
    private static final Pattern CALL =
            Pattern.compile("(?:\\w+ (\\w+) = )?(house\\.(\\w+)\\(.*?\\));(?:\\s*//\\s*(.*))?");
    private static final Pattern NUMBER = Pattern.compile("(-?\\d+)\\b.*");
    private static final Pattern EXCEPTION = Pattern.compile("(Illegal\\w+Exception)\\b.*");
    private static final Pattern TEST_NAME = Pattern.compile("`(\\w+Test)`");

    private static int wrong = 0;
    private static int checks = 0;

    public static void main(String[] args) throws Exception {
        String readme = Files.readString(Path.of("README.md"));
        List<String> lines = example(readme);
        allCallsAreShown(lines);
        runExample(lines);
        testsAreNamed(readme);
        System.out.println(checks + " checks of README.md, " + wrong + " wrong");
        if (wrong != 0) {
            System.exit(1);
        }
    }

    /** The compiled example calls it too. */
    public static void check(String what, Object got, Object due) {
        checks++;
        if (!got.toString().equals(due.toString())) {
            wrong++;
            System.out.println(what + ": is " + got + ", due is " + due);
        }
    }

    private static List<String> example(String readme) {
        List<String> lines = new ArrayList<>();
        boolean inside = false;
        for (String line : readme.split("\n")) {
            if (line.equals("```java")) {
                inside = true;
            } else if (line.equals("```")) {
                inside = false;
            } else if (inside && !line.isBlank()) {
                lines.add(line);
            }
        }
        return lines;
    }

    /** With the answer, if the call has one. */
    private static void allCallsAreShown(List<String> lines) {
        Set<String> shown = new TreeSet<>();
        for (String line : lines) {
            Matcher call = CALL.matcher(line);
            if (call.matches()) {
                boolean answered = NUMBER.matcher(comment(call)).matches();
                shown.add((answered ? "answer of " : "") + call.group(3));
            }
        }
        for (Method method : UseOdds.class.getMethods()) {
            if (method.getDeclaringClass() == UseOdds.class) {
                boolean answers = method.getReturnType() != void.class;
                String due = (answers ? "answer of " : "") + method.getName();
                check("README.md shows the " + due, shown.contains(due), true);
            }
        }
    }

    private static String comment(Matcher call) {
        return call.group(4) == null ? "" : call.group(4);
    }

    private static void runExample(List<String> lines) throws Exception {
        StringBuilder source = new StringBuilder("public final class " + EXAMPLE + " {\n");
        source.append("public static void run() {\n");
        for (String line : lines) {
            source.append(withCheck(line)).append('\n');
        }
        source.append("}\n}\n");
        Path folder = Files.createTempDirectory("readme");
        try {
            if (compile(folder, source.toString())) {
                call(folder);
            }
        } finally {
            remove(folder);
        }
    }

    private static String withCheck(String line) {
        Matcher call = CALL.matcher(line);
        if (!call.matches()) {
            return line;
        }
        Matcher exception = EXCEPTION.matcher(comment(call));
        if (exception.matches()) {
            return "try { " + check(call, call.group(2), exception.group(1))
                    + " } catch (RuntimeException e) { "
                    + check(call, "e.getClass().getSimpleName()", exception.group(1)) + " }";
        }
        Matcher number = NUMBER.matcher(comment(call));
        if (!number.matches()) {
            return line;
        }
        if (call.group(1) == null) {
            return check(call, call.group(2), number.group(1));
        }
        return line + "\n" + check(call, call.group(1), number.group(1));
    }

    private static String check(Matcher call, String got, String due) {
        return "ReadmeTest.check(\"" + call.group(2) + "\", " + got + ", \"" + due + "\");";
    }

    private static boolean compile(Path folder, String source) throws IOException {
        JavaCompiler compiler = ToolProvider.getSystemJavaCompiler();
        check("there is a compiler", compiler != null, true);
        if (compiler == null) {
            return false;
        }
        Path file = folder.resolve(EXAMPLE + ".java");
        Files.writeString(file, source);
        int code = compiler.run(null, System.out, System.out, "-d", folder.toString(),
                "-cp", System.getProperty("java.class.path"), file.toString());
        check("the example compiles", code, 0);
        return code == 0;
    }

    private static void call(Path folder) throws Exception {
        URL[] places = {folder.toUri().toURL()};
        try (URLClassLoader loader = new URLClassLoader(places, ReadmeTest.class.getClassLoader())) {
            loader.loadClass(EXAMPLE).getMethod("run").invoke(null);
        }
    }

    private static void remove(Path folder) throws IOException {
        try (DirectoryStream<Path> files = Files.newDirectoryStream(folder)) {
            for (Path file : files) {
                Files.delete(file);
            }
        }
        Files.delete(folder);
    }

    private static void testsAreNamed(String readme) throws IOException {
        Set<String> named = new TreeSet<>();
        Matcher name = TEST_NAME.matcher(readme);
        while (name.find()) {
            named.add(name.group(1));
        }
        Set<String> there = new TreeSet<>();
        try (DirectoryStream<Path> files = Files.newDirectoryStream(Path.of("src/test/java"))) {
            for (Path file : files) {
                there.add(file.getFileName().toString().replace(".java", ""));
            }
        }
        check("the tests that README.md names", named, there);
    }
}
