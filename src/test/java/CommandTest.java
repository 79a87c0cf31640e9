import java.io.IOException;
import java.nio.charset.StandardCharsets;
import java.nio.file.Files;
import java.nio.file.Path;
import java.nio.file.StandardCopyOption;
import java.util.ArrayList;
import java.util.List;
import java.util.concurrent.ExecutionException;
import java.util.concurrent.ExecutorService;
import java.util.concurrent.Executors;
import java.util.concurrent.Future;

/**
 * The command of README.md, run in a project of a few small tests beside a shared folder of its own: it runs
 * all of them, and fails if one fails, does not compile, or is not there.
 */
public final class CommandTest {
    private static final Check check = new Check("CommandTest");
    private static final String CLASS = "src/main/java/DuskStones.java";
    private static final String PASSES = "", FAILS = "System.exit(1);", THROWS = "throw new IllegalStateException();";
    private static final String NO_JAVA = "this is no Java;";

    private static final String NOT_COMPILED = "the class or its own tests do not compile";

    private record Ended(int code, List<String> lines) {
        String last() {
            return lines.isEmpty() ? "" : lines.get(lines.size() - 1);
        }
    }

    /** A project with two tests of its own and two shared ones, which pass till one is put in their place. */
    private static final class Project {
        // Read first: without a command no folder is left behind.
        final String command = new Readme().command();
        final Path place = Files.createTempDirectory("command");
        final Path main = place.resolve("main");

        Project() throws IOException {
            take(command);
            take(CLASS);
            own("FirstTest", PASSES);
            own("SecondTest", PASSES);
            shared("Third", PASSES);
            shared("Fourth", PASSES);
        }

        private void take(String file) throws IOException {
            Path copy = main.resolve(file);
            Files.createDirectories(copy.getParent());
            Files.copy(Path.of(file), copy, StandardCopyOption.COPY_ATTRIBUTES);
        }

        void own(String name, String does) throws IOException {
            write(main.resolve("src/test/java"), name, does);
        }

        void shared(String name, String does) throws IOException {
            write(place.resolve("shared/tests"), name, does);
        }

        /** It uses the class, so that it can't be compiled without it. */
        private static void write(Path folder, String name, String does) throws IOException {
            Files.createDirectories(folder);
            Files.writeString(folder.resolve(name + ".java"), "public final class " + name
                + " {\n    public static void main(String[] args) {\n"
                + "        System.out.println(\"" + name + " \" + new DuskStones().hills());\n        "
                + does + "\n    }\n}\n", StandardCharsets.UTF_8);
        }

        Ended run(Path from) throws IOException, InterruptedException {
            Path said = place.resolve("said");
            Process process = new ProcessBuilder(main.resolve(command).toAbsolutePath().toString())
                .directory(from.toFile()).redirectErrorStream(true).redirectOutput(said.toFile()).start();
            int code = process.waitFor();
            return new Ended(code, Files.readAllLines(said, StandardCharsets.UTF_8));
        }
    }

    private interface Change {
        void in(Project project) throws IOException;
    }

    /** One project, what is changed in it, and the line that the command must say then. */
    private record Case(String when, String line, Change change) {
        Ended ended() throws IOException, InterruptedException {
            Project project = new Project();
            try {
                change.in(project);
                return project.run(project.main);
            } finally {
                Folders.remove(project.place);
            }
        }
    }

    private static final List<Case> FAILING = List.of(
        new Case("a test of the project fails", "FAILED: SecondTest", p -> p.own("SecondTest", FAILS)),
        new Case("a test of the project throws", "FAILED: FirstTest", p -> p.own("FirstTest", THROWS)),
        new Case("a test of the project is no Java", NOT_COMPILED, p -> p.own("FirstTest", NO_JAVA)),
        new Case("a shared test fails", "FAILED: Third", p -> p.shared("Third", FAILS)),
        new Case("a shared test throws", "FAILED: Fourth", p -> p.shared("Fourth", THROWS)),
        new Case("a shared test is no Java", "FAILED: Third does not compile", p -> p.shared("Third", NO_JAVA)),
        new Case("there are no shared tests", "no tests under ../shared/tests",
            p -> Folders.remove(p.place.resolve("shared"))),
        new Case("the class is no Java", NOT_COMPILED, p -> Files.writeString(p.main.resolve(CLASS), NO_JAVA)));

    public static void main(String[] args) throws Exception {
        runsAll();
        failsIfOneFails();
        check.finish();
    }

    /** From whichever folder it is called. */
    private static void runsAll() throws IOException, InterruptedException {
        Project project = new Project();
        try {
            for (Path from : List.of(project.main, project.place)) {
                Ended ended = project.run(from);
                check.due("all pass: exit code", ended.code, 0);
                for (String name : List.of("FirstTest", "SecondTest", "Third", "Fourth")) {
                    check.holds(name + " ran once", ended.lines.stream().filter((name + " 0")::equals).count() == 1);
                }
                check.holds("all are counted", ended.last().equals("4 passed, 0 failed"));
            }
        } finally {
            Folders.remove(project.place);
        }
    }

    /** The projects know nothing of one another, so they run side by side. */
    private static void failsIfOneFails() throws InterruptedException, ExecutionException {
        ExecutorService hands = Executors.newFixedThreadPool(4);
        List<Future<Ended>> ends = new ArrayList<>();
        for (Case it : FAILING) {
            ends.add(hands.submit(it::ended));
        }
        hands.shutdown();
        for (int i = 0; i < FAILING.size(); i++) {
            Case it = FAILING.get(i);
            Ended ended = ends.get(i).get();
            check.holds(it.when + ": exit code " + ended.code, ended.code != 0);
            check.holds(it.when + ": it says so", ended.lines.contains(it.line));
            if (it.line.startsWith("FAILED")) {
                check.holds(it.when + ": the others ran", ended.last().equals("3 passed, 1 failed"));
            }
        }
    }
}
