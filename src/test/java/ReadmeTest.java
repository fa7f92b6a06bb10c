import java.io.IOException;
import java.lang.reflect.Method;
import java.lang.reflect.Modifier;
import java.nio.file.Files;
import java.nio.file.Path;
import java.util.ArrayList;
import java.util.List;
import java.util.Set;
import java.util.TreeSet;
import java.util.regex.Matcher;
import java.util.regex.Pattern;
import java.util.stream.Collectors;
import java.util.stream.Stream;
import javax.tools.ToolProvider;

/** That README.md holds: its examples are compiled and run, and what it names is there. */
public final class ReadmeTest {
    private static final Pattern ANSWERS = Pattern.compile("(x\\.\\w+\\(.*\\));\\s+// (-?\\d+)\\b.*");
    private static final Pattern THROWS = Pattern.compile("(x\\.\\w+\\(.*\\));\\s+// throws (\\w+)\\b.*");
    private static final String EXAMPLES = "ReadmeExamples";

    private final String readme;

    private ReadmeTest(String readme) {
        this.readme = readme;
    }

    public static void main(String[] args) throws Exception {
        ReadmeTest test = new ReadmeTest(Files.readString(Path.of("README.md")));
        test.examples();
        test.callsAreTheFace();
        test.rowsAndLimits();
        test.testsAreAllThere();
        test.classesAreAllNamed();
        test.filesAreThere();
        Check.finish();
    }

    private List<String> found(String pattern) {
        List<String> out = new ArrayList<>();
        Matcher matcher = Pattern.compile(pattern, Pattern.MULTILINE | Pattern.DOTALL).matcher(readme);
        while (matcher.find()) {
            out.add(matcher.group(1));
        }
        return out;
    }

    private static void sameNames(String what, Set<String> got, Set<String> due) {
        Check.isTrue(what + " are " + got + ", due are " + due, got.equals(due));
    }

    private static Set<String> faceNames() {
        return Stream.of(PressSuite.class.getDeclaredMethods()).filter(m -> Modifier.isPublic(m.getModifiers()))
            .map(Method::getName).collect(Collectors.toCollection(TreeSet::new));
    }

    private void examples() throws Exception {
        List<String> blocks = found("^```java\\n(.*?)^```$");
        Check.isTrue("there are examples", !blocks.isEmpty());
        Check.same("fences, two for each example that is run", found("^(```)").size(), 2L * blocks.size());
        String all = String.join("", blocks);
        for (String name : faceNames()) {
            Check.isTrue(name + " is in an example", all.contains("x." + name + "("));
        }
        // Beside this class, so that the examples may use Check, which is visible in its own loader's package alone.
        Path classes = Path.of(ReadmeTest.class.getProtectionDomain().getCodeSource().getLocation().toURI());
        Path source = Files.writeString(classes.resolve(EXAMPLES + ".java"), program(blocks));
        int code = ToolProvider.getSystemJavaCompiler().run(null, null, null,
            "--release", "17", "-cp", classes.toString(), "-d", classes.toString(), source.toString());
        Check.same("the compiler's exit code for the examples", code, 0);
        if (code == 0) {
            Class.forName(EXAMPLES).getDeclaredMethod("run").invoke(null);
        }
    }

    private static String program(List<String> blocks) {
        StringBuilder out = new StringBuilder("final class " + EXAMPLES + " {\n    static void run() {\n");
        for (String block : blocks) {
            out.append("        {\n");
            block.lines().forEach(line -> out.append(checked(line)).append('\n'));
            out.append("        }\n");
        }
        return out.append("    }\n}\n").toString();
    }

    private static String checked(String line) {
        Matcher answers = ANSWERS.matcher(line);
        if (answers.matches()) {
            return "Check.same(\"README, " + answers.group(1) + "\", " + answers.group(1) + ", " + answers.group(2) + "L);";
        }
        Matcher refuses = THROWS.matcher(line);
        if (refuses.matches()) {
            return "Check.throwsExactly(\"README, " + refuses.group(1) + "\", " + refuses.group(2) + ".class, () -> "
                + refuses.group(1) + ");";
        }
        // What is neither may only make an object or put: every other call has an answer that has to be told.
        Check.isTrue("an answer or an exception stands behind: " + line,
            line.startsWith("PressSuite x = ") || line.startsWith("x.put("));
        return line;
    }

    private void callsAreTheFace() {
        sameNames("the calls of the table", new TreeSet<>(found("^\\| `(\\w+)\\([^)]*\\)` \\|")), faceNames());
    }

    private void rowsAndLimits() {
        List<String> limits = found("^\\| \\d \\| [a-z ]+ \\| (\\d+) \\|$");
        Check.same("rows of the table", limits.size(), 3);
        for (int row = 0; row < limits.size(); row++) {
            int r = row;
            Counted x = new Counted();
            for (int i = Integer.parseInt(limits.get(r)); i > 0; i--) {
                x.put(r, i, 1);
            }
            Check.refusesState("put behind a full row " + r, x, () -> x.put(r, 1, 1));
        }
    }

    private static Set<String> sources(String ending) throws IOException {
        try (Stream<Path> files = Files.list(Path.of("src/test/java"))) {
            return files.map(f -> f.getFileName().toString()).filter(f -> f.endsWith(ending))
                .map(f -> f.substring(0, f.length() - ".java".length())).collect(Collectors.toCollection(TreeSet::new));
        }
    }

    private void testsAreAllThere() throws IOException {
        sameNames("the tests of the table", new TreeSet<>(found("^\\| `(\\w+Test)` \\|")), sources("Test.java"));
    }

    private void classesAreAllNamed() throws IOException {
        Set<String> due = sources(".java");
        for (Class<?> inside : PressSuite.class.getDeclaredClasses()) {
            due.add(inside.getSimpleName());
        }
        Set<String> named = new TreeSet<>(found("`([A-Z]\\w+)`"));
        named.remove("Test");
        sameNames("the classes that are named", named, due);
    }

    private void filesAreThere() {
        List<String> paths = found("`(src/[\\w./]+)`");
        Check.isTrue("files are named", !paths.isEmpty());
        for (String path : paths) {
            Check.isTrue(path + " is there", Files.exists(Path.of(path)));
        }
        Check.isTrue(".ci/run can be run", Files.isExecutable(Path.of(".ci/run")));
    }
}
