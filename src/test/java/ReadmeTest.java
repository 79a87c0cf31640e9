import java.io.File;
import java.io.IOException;
import java.net.URL;
import java.net.URLClassLoader;
import java.nio.charset.StandardCharsets;
import java.nio.file.Files;
import java.nio.file.Path;
import java.util.ArrayList;
import java.util.Arrays;
import java.util.List;
import java.util.Set;
import java.util.TreeSet;
import java.util.regex.Matcher;
import java.util.regex.Pattern;
import java.util.stream.Stream;
import javax.tools.JavaCompiler;
import javax.tools.ToolProvider;

/** README.md: its example compiles and answers as it says, its table has each test, its classes are there. */
public final class ReadmeTest {
    private static final Check check = new Check("ReadmeTest");
    private static final Path TESTS = Path.of("src/test/java");
    private static final Pattern CALL = Pattern.compile("^(.*?)\\b(x\\.\\w+\\(.*?\\));\\s*(.*)$");
    private static final Pattern ANSWER = Pattern.compile("// (-?\\d+)(: .+)?");
    private static final String MAIN = "public static void main(";

    public static void main(String[] args) throws Exception {
        Readme readme = new Readme();
        example(readme.block("java"));
        table(readme);
        classes(readme);
        check.finish();
    }

    private static void example(List<String> lines) throws Exception {
        List<String> calls = new ArrayList<>();
        List<Long> told = new ArrayList<>();
        StringBuilder body = new StringBuilder();
        for (String line : lines) {
            Matcher m = CALL.matcher(line);
            // What is indented stands in a loop, and has no one answer.
            if (line.startsWith(" ") || !m.find()) {
                body.append(line).append('\n');
                continue;
            }
            Matcher answer = ANSWER.matcher(m.group(3));
            boolean isTold = answer.matches();
            check.holds("an answer is told by the line: " + line, isTold);
            calls.add(m.group(2));
            told.add(isTold ? Long.valueOf(answer.group(1)) : null);
            body.append(m.group(1)).append("known(all, ").append(m.group(2)).append(");\n");
        }
        List<?> answers = answersOf(body.toString());
        check.due("how many calls answered", answers.size(), calls.size());
        check.holds("there are calls of each part", calls.size() >= 10);
        for (int i = 0; i < Math.min(answers.size(), calls.size()); i++) {
            check.holds(calls.get(i) + " answered " + answers.get(i) + ", README.md says " + told.get(i),
                answers.get(i).equals(told.get(i)));
        }
    }

    private static List<?> answersOf(String body) throws Exception {
        String source = "import java.util.List;\npublic final class ReadmeExample {\n"
            + "static int known(List<Long> all, int answer) { all.add((long) answer); return answer; }\n"
            + "static long known(List<Long> all, long answer) { all.add(answer); return answer; }\n"
            + "public static List<Long> answers() {\nList<Long> all = new java.util.ArrayList<>();\n"
            + body + "return all;\n}\n}\n";
        Path place = Files.createTempDirectory("readme");
        try {
            Path file = place.resolve("ReadmeExample.java");
            Files.writeString(file, source, StandardCharsets.UTF_8);
            boolean compiled = compiles(file, place);
            check.holds("the example compiles", compiled);
            return compiled ? answersIn(place) : List.of();
        } finally {
            Folders.remove(place);
        }
    }

    private static boolean compiles(Path file, Path place) {
        JavaCompiler javac = ToolProvider.getSystemJavaCompiler();
        return javac.run(null, null, null, "-encoding", "UTF-8", "-cp", System.getProperty("java.class.path"),
            "-d", place.toString(), file.toString()) == 0;
    }

    private static List<?> answersIn(Path place) throws Exception {
        try (URLClassLoader loader = new URLClassLoader(new URL[] {place.toUri().toURL()})) {
            return (List<?>) loader.loadClass("ReadmeExample").getMethod("answers").invoke(null);
        }
    }

    /** Each file with a main method is one that .ci/run takes for a test, and stands in the table; no other does. */
    private static void table(Readme readme) throws IOException {
        Set<String> tests = new TreeSet<>();
        try (Stream<Path> files = Files.list(TESTS)) {
            for (Path file : files.toList()) {
                String name = file.getFileName().toString().replace(".java", "");
                if (Files.readString(file, StandardCharsets.UTF_8).contains("    " + MAIN)) {
                    check.holds(name + " bears the name of a test", name.endsWith("Test"));
                    tests.add(name);
                }
            }
        }
        List<String> rows = readme.groups("(?m)^\\| (\\w+Test) \\|");
        check.holds("the table " + rows + " is that of the tests " + tests, new TreeSet<>(rows).equals(tests));
        check.due("rows of the table", rows.size(), tests.size());
        String command = readme.command();
        check.holds(command + " is a program", new File(command).isFile() && new File(command).canExecute());
    }

    private static void classes(Readme readme) {
        Set<String> said = new TreeSet<>(readme.groups("(?m)^- `(\\w+)`:"));
        said.addAll(readme.groups("`(Reader)` reads"));
        Set<String> there = new TreeSet<>(
            Arrays.stream(DuskStones.class.getDeclaredClasses()).map(Class::getSimpleName).toList());
        check.holds("the classes " + said + " are " + there, said.equals(there));
    }
}
