import java.io.File;
import java.io.IOException;
import java.lang.reflect.Method;
import java.lang.reflect.Modifier;
import java.net.URL;
import java.net.URLClassLoader;
import java.nio.file.Files;
import java.nio.file.Path;
import java.util.ArrayList;
import java.util.List;
import java.util.Set;
import java.util.TreeSet;
import java.util.function.LongConsumer;
import java.util.regex.Matcher;
import java.util.regex.Pattern;
import javax.tools.JavaCompiler;
import javax.tools.ToolProvider;

/** What README.md shows of the class's use answers as README.md says, and its tests are those that stand. */
public final class ReadmeTest {
    private static final Path README = Path.of("README.md"), TESTS = Path.of("src/test/java");
    private static final Pattern CALL = Pattern.compile("(tower\\.(\\w+)\\(.*\\)); *// (-?\\d+|[A-Z]+): .+");
    private static final Pattern KIND = Pattern.compile("\\| `(.)` +\\| (\\d) [A-Z]+ +\\| ([0-3 ]+|none +)\\| (\\d+) +\\|");
    private static final Pattern REFUSAL = Pattern.compile("\\| `([A-Z]+)` +\\| (-\\d+) +\\|.*");
    private static final Pattern TEST = Pattern.compile("- `(\\w+Test)`: .*");

    private static final Check CHECK = new Check();

    private final List<String> lines = Files.readAllLines(README);
    private final StringBuilder program = new StringBuilder();
    private final List<String> calls = new ArrayList<>();
    private final List<Long> answers = new ArrayList<>();
    private final Set<String> methods = new TreeSet<>();

    private ReadmeTest() throws IOException {
    }

    private static boolean holds(String what, boolean so) {
        CHECK.due(what, so ? 1 : 0, 1);
        return so;
    }

    // ---- the Java that it shows

    private void useAnswersAsTold() throws ReflectiveOperationException, IOException {
        program.append("public final class Use { public static void go(java.util.function.LongConsumer answer) {\n");
        boolean java = false;
        for (String line : lines) {
            if (line.startsWith("```")) {
                java = line.equals("```java");
            } else if (java) {
                take(line);
            }
        }
        program.append("} }\n");
        List<Long> got = new ArrayList<>();
        run(got::add);
        CHECK.due("calls that answered", got.size(), calls.size());
        for (int at = 0; at < calls.size() && at < got.size(); at++) {
            CHECK.due("README.md: " + calls.get(at), got.get(at), answers.get(at));
        }
    }

    private void take(String line) throws ReflectiveOperationException {
        Matcher call = CALL.matcher(line);
        if (call.matches()) {
            program.append("answer.accept(").append(call.group(1)).append(");\n");
            calls.add(call.group(1));
            methods.add(call.group(2));
            answers.add(number(call.group(3)));
        } else {
            // A call within a loop has no answer of its own.
            holds("README.md tells no answer: " + line, !line.startsWith("tower."));
            program.append(line).append('\n');
        }
    }

    private static long number(String told) throws ReflectiveOperationException {
        boolean named = Character.isLetter(told.charAt(0));
        return named ? CubeTower.class.getField(told).getInt(null) : Long.parseLong(told);
    }

    private void run(LongConsumer answer) throws ReflectiveOperationException, IOException {
        Path made = Files.createTempDirectory("readme");
        Path source = made.resolve("Use.java");
        Files.writeString(source, program);
        JavaCompiler compiler = ToolProvider.getSystemJavaCompiler();
        String known = System.getProperty("java.class.path");
        boolean good = holds("there is a compiler", compiler != null) && holds("README.md compiles",
                compiler.run(null, null, null, "-cp", known, "-d", made.toString(), source.toString()) == 0);
        if (good) {
            try (URLClassLoader loader = new URLClassLoader(new URL[] {made.toUri().toURL()})) {
                loader.loadClass("Use").getMethod("go", LongConsumer.class).invoke(null, answer);
            }
        }
        for (File file : made.toFile().listFiles()) {
            file.delete();
        }
        Files.delete(made);
    }

    private void everyMethodIsShown() {
        for (Method method : CubeTower.class.getDeclaredMethods()) {
            if (Modifier.isPublic(method.getModifiers())) {
                holds("README.md shows " + method.getName(), methods.contains(method.getName()));
            }
        }
    }

    // ---- its tables

    private void kindsAreAsTold() {
        int kinds = 0;
        for (String line : lines) {
            Matcher row = KIND.matcher(line);
            if (row.matches()) {
                kinds++;
                CubeTower tower = Check.read(row.group(1) + "abcdef,fabcdef");
                CHECK.due("kind in " + line, tower.cube(0, 0), Integer.parseInt(row.group(2)));
                CHECK.due("ways in " + line, tower.cube(0, 1), Integer.parseInt(row.group(4)));
                for (int turn = 0; turn < 4; turn++) {
                    boolean told = row.group(3).indexOf('0' + turn) >= 0;
                    CHECK.due("turn " + turn + " in " + line, tower.cube(0, 4) >> turn & 1, told ? 1 : 0);
                }
            }
        }
        CHECK.due("kinds in README.md", kinds, 5);
    }

    private void refusalsAreAsTold() throws ReflectiveOperationException {
        int refusals = 0;
        for (String line : lines) {
            Matcher row = REFUSAL.matcher(line);
            if (row.matches()) {
                refusals++;
                CHECK.due(line, number(row.group(1)), Long.parseLong(row.group(2)));
            }
        }
        CHECK.due("refusals in README.md", refusals, 4);
    }

    // ---- how it says the tests are run

    private void testsAreAsTold() {
        Set<String> told = new TreeSet<>();
        for (String line : lines) {
            Matcher test = TEST.matcher(line);
            if (test.matches()) {
                told.add(test.group(1) + ".java");
            }
        }
        Set<String> there = new TreeSet<>();
        for (String name : TESTS.toFile().list()) {
            if (name.endsWith("Test.java")) {
                there.add(name);
            }
        }
        holds("tests: README.md has " + told + ", there are " + there, told.equals(there));
        holds("README.md tells of .ci/run", lines.contains("    .ci/run"));
        holds(".ci/run can be run", Files.isExecutable(Path.of(".ci/run")));
    }

    public static void main(String[] args) throws ReflectiveOperationException, IOException {
        ReadmeTest test = new ReadmeTest();
        test.useAnswersAsTold();
        test.everyMethodIsShown();
        test.kindsAreAsTold();
        test.refusalsAreAsTold();
        test.testsAreAsTold();
        CHECK.end();
    }
}
