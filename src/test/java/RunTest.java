import java.io.IOException;
import java.nio.file.Files;
import java.nio.file.Path;
import java.util.ArrayList;
import java.util.Comparator;
import java.util.List;
import java.util.stream.Stream;

/**
 * .ci/run does what README.md says of it: a copy of it runs in small projects, each with a class that
 * has nothing in it, one test of its own and one under ../shared/tests.
 */
public final class RunTest {
    private static final String CLASS = "public final class UseOdds { }\n";
    private static final String BROKEN = "public final class {\n";
    private static final String NO_FILE = "";

    private static int wrong = 0;
    private static int checks = 0;

    public static void main(String[] args) throws Exception {
        check("it may be executed", Files.isExecutable(Path.of(".ci/run")), true);
        Path home = Files.createTempDirectory("run");
        try {
            List<Project> projects = new ArrayList<>();
            projects.add(new Project(home, "all pass", 0, CLASS, test("Own", ""), test("Due", "")));
            projects.add(new Project(home, "a test of the project fails", 1,
                    CLASS, test("Own", "System.exit(1);"), test("Due", "")));
            projects.add(new Project(home, "a test of the project throws", 1,
                    CLASS, test("Own", "Integer.parseInt(\"\");"), test("Due", "")));
            projects.add(new Project(home, "a test of the project does not compile", 1,
                    CLASS, BROKEN, test("Due", "")));
            projects.add(new Project(home, "a shared test fails", 1,
                    CLASS, test("Own", ""), test("Due", "System.exit(1);")));
            projects.add(new Project(home, "the class does not compile", 1,
                    BROKEN, test("Own", ""), test("Due", "")));
            projects.add(new Project(home, "the project has no test", 1, CLASS, NO_FILE, test("Due", "")));
            projects.add(new Project(home, "there is no shared test", 1, CLASS, test("Own", ""), NO_FILE));
            for (Project project : projects) {
                project.start();
            }
            for (Project project : projects) {
                project.look();
            }
        } finally {
            remove(home);
        }
        System.out.println(checks + " checks of .ci/run, " + wrong + " wrong");
        if (wrong != 0) {
            System.exit(1);
        }
    }

    private static String test(String name, String end) {
        return "public final class " + name + " { public static void main(String[] args) {"
                + " new UseOdds(); System.out.println(\"ran " + name + "\"); " + end + " } }\n";
    }

    private static void check(String what, Object got, Object due) {
        checks++;
        if (!got.equals(due)) {
            wrong++;
            System.out.println(what + ": is " + got + ", due is " + due);
        }
    }

    private static void remove(Path home) throws IOException {
        List<Path> inner = new ArrayList<>();
        try (Stream<Path> all = Files.walk(home)) {
            all.sorted(Comparator.reverseOrder()).forEach(inner::add);
        }
        for (Path path : inner) {
            Files.delete(path);
        }
    }

    /** A checkout with ../shared beside it. */
    private static final class Project {
        private final String name;
        private final int due;
        private final String program;
        private final String own;
        private final String shared;
        private final Path folder;
        private final Path said;
        private Process process;

        Project(Path home, String name, int due, String program, String own, String shared) {
            this.name = name;
            this.due = due;
            this.program = program;
            this.own = own;
            this.shared = shared;
            folder = home.resolve(name);
            said = folder.resolve("said");
        }

        void start() throws IOException {
            write("main/src/main/java/UseOdds.java", program);
            write("main/src/test/java/Own.java", own);
            write("shared/tests/Due.java", shared);
            write("main/.ci/run", Files.readString(Path.of(".ci/run")));
            // From another folder, since the script has to find its own.
            process = new ProcessBuilder("sh", folder.resolve("main/.ci/run").toString())
                    .directory(folder.toFile()).redirectErrorStream(true)
                    .redirectOutput(said.toFile()).start();
        }

        private void write(String place, String text) throws IOException {
            Path file = folder.resolve(place);
            Files.createDirectories(file.getParent());
            if (!text.equals(NO_FILE)) {
                Files.writeString(file, text);
            }
        }

        void look() throws Exception {
            int before = wrong;
            check(name + ": exit code", process.waitFor(), due);
            String text = Files.readString(said);
            boolean compiles = program.equals(CLASS);
            check(name + ": Own ran", text.contains("ran Own"), compiles && own.contains("ran Own"));
            check(name + ": Due ran", text.contains("ran Due"), compiles && shared.contains("ran Due"));
            if (wrong != before) {
                System.out.println(text);
            }
        }
    }
}
