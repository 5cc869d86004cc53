import java.io.IOException;
import java.nio.file.Files;
import java.nio.file.Path;
import java.util.ArrayList;
import java.util.List;
import java.util.Set;
import java.util.TreeSet;
import java.util.regex.Matcher;
import java.util.regex.Pattern;
import java.util.stream.Stream;

/** README.md: its example does what stands behind its lines, and its tables name all calls and all tests. */
public final class ReadmeTest {
    private static final Path README = Path.of("README.md");
    private static final Path SOURCE = Path.of("src/main/java/ShredStore.java");
    private static final Path TESTS = Path.of("src/test/java");

    /** A line that prints a call's answer, and the answer at the head of its comment. */
    private static final Pattern PRINTED =
        Pattern.compile(" *System\\.out\\.println\\((store\\..*)\\); *(// ([^,: ]+).*)?");
    private static final Pattern PUBLIC = Pattern.compile("    public (?!static)(.*\\)) \\{");
    private static final Pattern ROW = Pattern.compile("\\| `([a-z]+ [^`]*\\))` \\|.*");

    private static final Check check = new Check();

    private ReadmeTest() {
    }

    public static void main(String[] args) throws Exception {
        List<String> readme = Files.readAllLines(README);
        exampleAnswersAsItSays(example(readme));
        exampleMakesEveryCall(example(readme));
        tableHasEveryCall(readme);
        everyTestIsNamed(readme);
        check.end();
    }

    private static List<String> example(List<String> readme) {
        int from = readme.indexOf("```java") + 1;
        List<String> rest = readme.subList(from, readme.size());
        return from == 0 ? List.of() : rest.subList(0, rest.indexOf("```"));
    }

    private static void exampleAnswersAsItSays(List<String> example) throws Exception {
        check.sentence("README.md: behind each call that is printed stands what it prints");
        List<String> calls = new ArrayList<>();
        List<String> want = new ArrayList<>();
        for (String line : example) {
            Matcher printed = PRINTED.matcher(line);
            if (printed.matches()) {
                calls.add(printed.group(1));
                want.add(String.valueOf(printed.group(3)));
            }
        }
        List<String> got = run(example);
        check.due("there is an example", calls.isEmpty(), false);
        check.due("lines that the example prints", got.size(), calls.size());
        for (int k = 0; k < Math.min(got.size(), calls.size()); k++) {
            check.due("line " + k + ", " + calls.get(k), got.get(k), want.get(k));
        }
    }

    /** What the example prints, compiled as it stands there with the commands that stand there. */
    private static List<String> run(List<String> example) throws Exception {
        Path dir = Files.createTempDirectory("readme");
        try {
            String file = Files.write(dir.resolve("Example.java"), example).toString();
            printed("javac", "-d", dir.toString(), SOURCE.toString(), file);
            return printed("java", "-cp", dir.toString(), "Example");
        } finally {
            delete(dir);
        }
    }

    private static List<String> printed(String... command) throws Exception {
        Process process = new ProcessBuilder(command).redirectError(ProcessBuilder.Redirect.INHERIT).start();
        List<String> lines = new String(process.getInputStream().readAllBytes()).lines().toList();
        check.due("exit code of " + command[0], process.waitFor(), 0);
        return lines;
    }

    private static void delete(Path dir) throws IOException {
        List<Path> files;
        try (Stream<Path> all = Files.list(dir)) {
            files = all.toList();
        }
        for (Path file : files) {
            Files.delete(file);
        }
        Files.delete(dir);
    }

    private static Set<String> face() throws IOException {
        Set<String> face = new TreeSet<>();
        for (String line : Files.readAllLines(SOURCE)) {
            Matcher member = PUBLIC.matcher(line);
            if (member.matches() && !member.group(1).startsWith("ShredStore(")) {
                face.add(member.group(1));
            }
        }
        return face;
    }

    private static void exampleMakesEveryCall(List<String> example) throws IOException {
        check.sentence("README.md: the example makes every call of the face");
        String text = String.join("\n", example);
        for (String member : face()) {
            String name = member.substring(member.indexOf(' ') + 1, member.indexOf('('));
            check.due("example calls " + name, text.contains("println(store." + name + "("), true);
        }
    }

    private static void tableHasEveryCall(List<String> readme) throws IOException {
        check.sentence("README.md: each of its calls");
        Set<String> rows = new TreeSet<>();
        for (String line : readme) {
            Matcher row = ROW.matcher(line);
            if (row.matches()) {
                rows.add(row.group(1));
            }
        }
        check.due("calls of the face", face().size(), 15);
        check.due("calls of the table " + rows + " are those of the face", rows.equals(face()), true);
    }

    private static void everyTestIsNamed(List<String> readme) throws IOException {
        check.sentence("README.md: the table of tests");
        String text = String.join("\n", readme);
        try (Stream<Path> files = Files.list(TESTS)) {
            for (Path file : files.toList()) {
                String name = file.getFileName().toString().replace(".java", "");
                if (name.endsWith("Test")) {
                    check.due("README.md names " + name, text.contains("`" + name + "`"), true);
                }
            }
        }
    }
}
