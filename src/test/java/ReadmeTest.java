import java.io.File;
import java.io.IOException;
import java.lang.reflect.Method;
import java.lang.reflect.Modifier;
import java.net.URL;
import java.net.URLClassLoader;
import java.nio.file.Files;
import java.nio.file.Path;
import java.util.ArrayList;
import java.util.Comparator;
import java.util.List;
import java.util.regex.Matcher;
import java.util.regex.Pattern;
import java.util.stream.Collectors;
import java.util.stream.Stream;
import javax.tools.ToolProvider;

/** What README.md says is so: its examples answer what stands behind them, and what it names is there. */
public final class ReadmeTest {
    private static final Pattern BLOCK = Pattern.compile("```java\n(.*?)```", Pattern.DOTALL);
    /** A call, and behind it what it answers. */
    private static final Pattern CALL = Pattern.compile("((?:x\\.|read\\().*\\)); *// (-?\\w+): .*");
    private static final String[] NAMED_FILES = {".ci/run", "src/main/java/CircuitChecker.java", "src/test/java",
        "../shared/tests"};

    private final String readme;
    private final List<String> calls = new ArrayList<>();
    private final List<String> wanted = new ArrayList<>();

    private ReadmeTest(String readme) {
        this.readme = readme;
    }

    public static void main(String[] args) throws IOException, ReflectiveOperationException {
        ReadmeTest test = new ReadmeTest(Files.readString(Path.of("README.md")));
        test.examples();
        test.calls();
        test.classes();
        test.tests();
        test.files();
        Check.finish();
    }

    private void examples() throws IOException, ReflectiveOperationException {
        Path folder = Files.createTempDirectory("readme");
        Path source = folder.resolve("Example.java");
        Files.writeString(source, source());
        int failed = ToolProvider.getSystemJavaCompiler().run(null, null, null, "-proc:none", "-cp",
            System.getProperty("java.class.path"), "-d", folder.toString(), source.toString());
        Check.due("errors of the examples", failed, 0);
        Check.due("calls with an answer", calls.size() >= 15, true);
        try (URLClassLoader loader = new URLClassLoader(new URL[] {folder.toUri().toURL()})) {
            List<String> got = new ArrayList<>();
            loader.loadClass("Example").getMethod("run", List.class).invoke(null, got);
            for (int i = 0; i < calls.size(); i++) {
                Check.due("README.md: " + calls.get(i), got.get(i), wanted.get(i));
            }
        } finally {
            remove(folder);
        }
    }

    /** The blocks with a method as they stand, the others in one method that gathers the answers. */
    private String source() {
        StringBuilder members = new StringBuilder();
        StringBuilder body = new StringBuilder();
        Matcher blocks = BLOCK.matcher(readme);
        while (blocks.find()) {
            if (blocks.group(1).startsWith("static ")) {
                members.append(blocks.group(1));
            } else {
                blocks.group(1).lines().forEach(line -> body.append(gathered(line)).append('\n'));
            }
        }
        return "public class Example {\n" + members + "public static void run(java.util.List<String> got) {\n" + body
            + "}\n}\n";
    }

    private String gathered(String line) {
        Matcher call = CALL.matcher(line);
        if (!call.matches()) {
            Check.due("README.md: a call without its answer: " + line, line.startsWith("x.") || line.startsWith("read("),
                false);
            return line;
        }
        calls.add(call.group(1));
        wanted.add(call.group(2));
        return "got.add(String.valueOf(" + call.group(1) + "));";
    }

    private static void remove(Path folder) throws IOException {
        try (Stream<Path> all = Files.walk(folder)) {
            for (Path path : all.sorted(Comparator.reverseOrder()).collect(Collectors.toList())) {
                Files.delete(path);
            }
        }
    }

    private void calls() {
        for (Method m : CircuitChecker.class.getDeclaredMethods()) {
            if (Modifier.isPublic(m.getModifiers())) {
                Matcher row = Pattern.compile("\n\\| `" + m.getName() + "\\((.*?)\\)` \\|.*\\|").matcher(readme);
                boolean found = row.find();
                Check.due("a row for " + m.getName(), found, true);
                int parameters = !found || row.group(1).isEmpty() ? 0 : row.group(1).split(",").length;
                Check.due("parameters of " + m.getName(), parameters, m.getParameterCount());
            }
        }
    }

    private void classes() {
        String built = readme.substring(readme.indexOf("## How it is built"), readme.indexOf("## How to run the tests"));
        for (Class<?> c : CircuitChecker.class.getDeclaredClasses()) {
            Check.due(c.getSimpleName() + " is told of", built.contains("`" + c.getSimpleName() + "`"), true);
        }
    }

    private void tests() throws IOException {
        String told = readme.substring(readme.indexOf("## How to run the tests"));
        for (File file : new File("src/test/java").listFiles()) {
            String name = file.getName().replace(".java", "");
            if (name.endsWith("Test")) {
                Check.due(name + " is told of", told.contains("\n- `" + name + "`: "), true);
            }
        }
        Matcher named = Pattern.compile("\n- `(\\w+)`: ").matcher(told);
        while (named.find()) {
            Check.due(named.group(1) + " is there", new File("src/test/java/" + named.group(1) + ".java").isFile(), true);
        }
    }

    private void files() {
        for (String path : NAMED_FILES) {
            Check.due(path + " is told of", readme.contains(path), true);
            Check.due(path + " is there", new File(path).exists(), true);
        }
        Check.due(".ci/run can be run", new File(".ci/run").canExecute(), true);
    }
}
