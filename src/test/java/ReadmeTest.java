import java.io.File;
import java.io.IOException;
import java.io.InputStream;
import java.io.UncheckedIOException;
import java.lang.reflect.Method;
import java.lang.reflect.Modifier;
import java.net.URL;
import java.net.URLClassLoader;
import java.nio.charset.StandardCharsets;
import java.nio.file.Files;
import java.nio.file.Path;
import java.util.ArrayList;
import java.util.Comparator;
import java.util.List;
import java.util.TreeSet;
import java.util.regex.Matcher;
import java.util.regex.Pattern;
import java.util.stream.Stream;
import javax.tools.JavaCompiler;
import javax.tools.ToolProvider;

/**
 * What README.md shows gives what README.md says: each block of Java is compiled and run as it is written
 * there, and each of its calls has to answer what the comment behind it tells. The commands for one test
 * alone are run, too, and the table of tests has to name every test. It is run in the project's folder.
 */
public final class ReadmeTest {
    private static final Path README = Path.of("README.md");
    private static final Path TESTS = Path.of("src/test/java");
    private static final String MADE = "ReadmeBlock";

    // A call; behind it the answer, or what it throws; behind a colon words, which are not looked at.
    private static final Pattern TOLD =
            Pattern.compile("(?:int (\\w+) = )?(.*\\));\\s*// (\"[^\"]*\"|-?[0-9.]+|throws \\w+)(?:: .*)?");
    private static final Pattern NEW_HALL = Pattern.compile("SorobanHall \\w+ = new SorobanHall\\(\\);");
    private static final Pattern CALLED = Pattern.compile("hall\\.(\\w+)\\(");
    private static final Pattern TEST_ROW = Pattern.compile("\\| `(\\w+Test)` \\|.*");

    private final Check check = new Check();
    private final List<String> lines;
    private final Path made;
    private final TreeSet<String> shown = new TreeSet<>();

    private ReadmeTest(Path made) throws IOException {
        this.made = made;
        lines = Files.readAllLines(README, StandardCharsets.UTF_8);
    }

    public static void main(String[] args) throws Exception {
        Path made = Files.createTempDirectory("readme");
        ReadmeTest test = new ReadmeTest(made);
        try {
            test.lookAtJava();
            test.lookAtCommands();
            test.lookAtTable();
        } finally {
            remove(made);
        }
        test.check.end("ReadmeTest");
    }

    private void lookAtJava() throws Exception {
        List<List<String>> blocks = blocks("java");
        for (int k = 0; k < blocks.size(); k++) {
            runBlock(k + 1, blocks.get(k));
        }
        check.due("README.md: calls shown with their answer", shown, callsOfTheFace());
    }

    /** Every block between the signs for code of that language. */
    private List<List<String>> blocks(String language) {
        List<List<String>> found = new ArrayList<>();
        List<String> open = null;
        for (String line : lines) {
            if (line.startsWith("```")) {
                open = open == null ? new ArrayList<>() : null;
                if (line.equals("```" + language)) {
                    found.add(open);
                }
            } else if (open != null) {
                open.add(line);
            }
        }
        check.due("README.md: has code in " + language, !found.isEmpty(), true);
        return found;
    }

    private void runBlock(int number, List<String> block) throws Exception {
        List<String> calls = new ArrayList<>();
        List<String> want = new ArrayList<>();
        StringBuilder body = new StringBuilder();
        for (String line : block) {
            Matcher told = TOLD.matcher(line);
            if (told.matches()) {
                calls.add(line);
                want.add(told.group(3));
                body.append(asking(told.group(1), told.group(2)));
                noteCall(told.group(2));
            } else if (!line.isBlank()) {
                check.due("README.md: the line that tells no answer: " + line, NEW_HALL.matcher(line).matches(), true);
                body.append(line).append('\n');
            }
        }
        List<?> got = answers(MADE + number, body.toString());
        check.due("README.md: calls made in block " + number, got.size(), calls.size());
        for (int k = 0; k < Math.min(got.size(), calls.size()); k++) {
            check.due("README.md: " + calls.get(k), got.get(k), want.get(k));
        }
    }

    /** The line as it stands there, and its answer as a text put to those told. */
    private static String asking(String name, String call) {
        if (name != null) {
            return "int " + name + " = " + call + "; told.add(text(" + name + "));\n";
        }
        return "try { told.add(text(" + call + ")); }"
                + " catch (RuntimeException e) { told.add(\"throws \" + e.getClass().getSimpleName()); }\n";
    }

    private void noteCall(String call) {
        Matcher called = CALLED.matcher(call);
        while (called.find()) {
            shown.add(called.group(1));
        }
    }

    private List<?> answers(String name, String body) throws Exception {
        String source = "import java.util.*;\n"
                + "public final class " + name + " {\n"
                + "static String text(Object o) { return o instanceof String ? \"\\\"\" + o + \"\\\"\" : \"\" + o; }\n"
                + "public static List<String> answers() {\n"
                + "List<String> told = new ArrayList<>();\n"
                + body
                + "return told;\n}\n}\n";
        Path file = Files.writeString(made.resolve(name + ".java"), source);
        JavaCompiler compiler = ToolProvider.getSystemJavaCompiler();
        int ended = compiler.run(null, null, null, "-proc:none", "-cp", System.getProperty("java.class.path"),
                "-d", made.toString(), file.toString());
        check.due("README.md: javac on " + name, ended, 0);
        if (ended != 0) {
            return List.of();
        }
        try (URLClassLoader loader = new URLClassLoader(new URL[] {made.toUri().toURL()})) {
            return (List<?>) loader.loadClass(name).getMethod("answers").invoke(null);
        }
    }

    private static TreeSet<String> callsOfTheFace() {
        TreeSet<String> names = new TreeSet<>();
        for (Method method : SorobanHall.class.getDeclaredMethods()) {
            if (Modifier.isPublic(method.getModifiers())) {
                names.add(method.getName());
            }
        }
        return names;
    }

    /** The commands for one test alone end well, and their last line is as README.md tells it. */
    private void lookAtCommands() throws Exception {
        for (List<String> block : blocks("sh")) {
            ProcessBuilder builder = new ProcessBuilder("sh", "-e", "-c", String.join("\n", block));
            builder.environment().put("TMPDIR", made.toString());
            builder.redirectErrorStream(true);
            Process process = builder.start();
            String said = "";
            try (InputStream out = process.getInputStream()) {
                said = new String(out.readAllBytes(), StandardCharsets.UTF_8);
            }
            check.due("README.md: exit code of " + block, process.waitFor(), 0);
            check.due("README.md: " + block + " said " + said, said.endsWith("answers looked at, 0 wrong\n"), true);
        }
    }

    private void lookAtTable() {
        TreeSet<String> rows = new TreeSet<>();
        for (String line : lines) {
            Matcher row = TEST_ROW.matcher(line);
            if (row.matches()) {
                rows.add(row.group(1));
            }
        }
        TreeSet<String> tests = new TreeSet<>();
        File[] files = TESTS.toFile().listFiles();
        for (File file : files == null ? new File[0] : files) {
            if (file.getName().endsWith("Test.java")) {
                tests.add(file.getName().replace(".java", ""));
            }
        }
        check.due("README.md: the table of tests", rows, tests);
    }

    private static void remove(Path folder) throws IOException {
        try (Stream<Path> inside = Files.walk(folder)) {
            inside.sorted(Comparator.reverseOrder()).forEach(ReadmeTest::removeOne);
        }
    }

    private static void removeOne(Path path) {
        try {
            Files.delete(path);
        } catch (IOException e) {
            throw new UncheckedIOException(e);
        }
    }
}
