import java.io.File;
import java.io.IOException;
import java.nio.file.Files;
import java.nio.file.Path;
import java.util.ArrayList;
import java.util.Comparator;
import java.util.List;
import java.util.concurrent.TimeUnit;
import java.util.stream.Stream;

/**
 * What README.md says of .ci/run, tried with the script itself in small projects made for that; the
 * projects are run at the same time. It is run from the project's directory.
 */
public final class ScriptTest {
    private static final String ENDS_WELL = "System.out.println(\"ran %s\");";
    private static final String ENDS_WITH_ONE = ENDS_WELL + " System.exit(1);";
    private static final String THROWS = ENDS_WELL + " throw new IllegalStateException();";
    private static final String NOT_JAVA = "this is not Java";
    private static final int MOST_SECONDS = 300;

    public static void main(String[] args) throws IOException, InterruptedException {
        Check check = new Check();
        check.in(".ci/run");
        check.due("is executable", true, Files.isExecutable(Path.of(".ci/run")));
        Path room = Files.createTempDirectory("script");
        try {
            List<Project> projects = projects(room);
            for (Project project : projects) {
                project.start();
            }
            for (Project project : projects) {
                project.look(check);
            }
        } finally {
            remove(room);
        }
        check.end("ScriptTest");
    }

    private static List<Project> projects(Path room) throws IOException {
        List<Project> all = new ArrayList<>();
        all.add(new Project(room, "all tests pass", 0).own("FirstTest", ENDS_WELL)
                .own("SecondTest", ENDS_WELL).shared("Third", ENDS_WELL)
                .prints("ran FirstTest", "ran SecondTest", "ran Third", "3 passed, 0 failed"));
        all.add(new Project(room, "a class whose name does not end in Test", 0)
                .own("FirstTest", ENDS_WELL).own("Helper", ENDS_WITH_ONE).own("TestOfNothing", ENDS_WITH_ONE)
                .shared("Third", ENDS_WELL).prints("2 passed, 0 failed"));
        all.add(new Project(room, "the first own test fails", 1).own("FirstTest", ENDS_WITH_ONE)
                .own("SecondTest", ENDS_WELL).shared("Third", ENDS_WELL)
                .prints("ran FirstTest", "ran SecondTest", "ran Third", "2 passed, 1 failed"));
        all.add(new Project(room, "the last own test throws", 1).own("FirstTest", ENDS_WELL)
                .own("SecondTest", THROWS).shared("Third", ENDS_WELL)
                .prints("ran SecondTest", "ran Third", "2 passed, 1 failed"));
        all.add(new Project(room, "the first shared test fails", 1).own("FirstTest", ENDS_WELL)
                .shared("Second", ENDS_WITH_ONE).shared("Third", ENDS_WELL)
                .prints("ran FirstTest", "ran Second", "ran Third", "2 passed, 1 failed"));
        all.add(new Project(room, "the last shared test fails", 1).own("FirstTest", ENDS_WELL)
                .shared("Second", ENDS_WELL).shared("Third", ENDS_WITH_ONE)
                .prints("ran Second", "ran Third", "2 passed, 1 failed"));
        all.add(new Project(room, "an own test does not compile", 1).own("FirstTest", ENDS_WELL)
                .own("SecondTest", NOT_JAVA).shared("Third", ENDS_WELL).prints("do not compile"));
        all.add(new Project(room, "a shared test does not compile", 1).own("FirstTest", ENDS_WELL)
                .shared("Second", NOT_JAVA).shared("Third", ENDS_WELL)
                .prints("ran FirstTest", "ran Third", "2 passed, 1 failed"));
        all.add(new Project(room, "no test under ../shared/tests", 1).own("FirstTest", ENDS_WELL)
                .prints("ran FirstTest", "1 passed, 1 failed"));
        return all;
    }

    private static void remove(Path room) throws IOException {
        try (Stream<Path> found = Files.walk(room)) {
            for (Path one : found.sorted(Comparator.reverseOrder()).toList()) {
                Files.delete(one);
            }
        }
    }

    /** A project with the script, a class PathRunner that has nothing, and tests that do nothing else. */
    private static final class Project {
        private final String name;
        private final int wantedExit;
        private final Path main;
        private final Path shared;
        private final File output;
        private String[] wanted = {};
        private Process process;

        Project(Path room, String name, int wantedExit) throws IOException {
            this.name = name;
            this.wantedExit = wantedExit;
            Path place = Files.createTempDirectory(room, "project");
            main = place.resolve("main");
            shared = place.resolve("shared/tests");
            output = place.resolve("output").toFile();
            Files.createDirectories(main.resolve(".ci"));
            Files.createDirectories(main.resolve("src/main/java"));
            Files.createDirectories(main.resolve("src/test/java"));
            Files.createDirectories(shared);
            Files.copy(Path.of(".ci/run"), main.resolve(".ci/run"));
            Files.writeString(main.resolve("src/main/java/PathRunner.java"),
                    "public final class PathRunner { }");
        }

        Project own(String test, String body) throws IOException {
            write(main.resolve("src/test/java"), test, body);
            return this;
        }

        Project shared(String test, String body) throws IOException {
            write(shared, test, body);
            return this;
        }

        /** Its tests make a PathRunner, as they can only where they are compiled with it. */
        private static void write(Path directory, String test, String body) throws IOException {
            Files.writeString(directory.resolve(test + ".java"),
                    "public final class " + test + " { public static void main(String[] args) {"
                    + " new PathRunner(); " + String.format(body, test) + " } }");
        }

        Project prints(String... texts) {
            wanted = texts;
            return this;
        }

        void start() throws IOException {
            process = new ProcessBuilder("bash", main.resolve(".ci/run").toString())
                    .redirectErrorStream(true).redirectOutput(output).start();
        }

        void look(Check check) throws IOException, InterruptedException {
            boolean ended = process.waitFor(MOST_SECONDS, TimeUnit.SECONDS);
            check.due(name + ": ended", true, ended);
            if (!ended) {
                process.destroyForcibly().waitFor();
                return;
            }
            check.due(name + ": exit code", wantedExit, process.exitValue());
            String text = Files.readString(output.toPath());
            for (String one : wanted) {
                check.due(name + ": prints '" + one + "'", true, text.contains(one));
            }
        }
    }
}
