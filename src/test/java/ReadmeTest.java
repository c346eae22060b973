import java.io.IOException;
import java.lang.reflect.Method;
import java.lang.reflect.Modifier;
import java.net.URL;
import java.net.URLClassLoader;
import java.nio.file.Files;
import java.nio.file.Path;
import java.util.Set;
import java.util.TreeSet;
import java.util.regex.Matcher;
import java.util.regex.Pattern;
import java.util.stream.Stream;
import javax.tools.ToolProvider;

/** README.md: its examples compile and answer what it says, every call is shown there, and its table names every test. */
public final class ReadmeTest {
    private static final Pattern EXAMPLE = Pattern.compile("(?s)```java\n(.*?)```");
    private static final Pattern CALL = Pattern.compile("(x\\.(\\w+)\\(.*\\)); *// (-?\\d+)( \\(([A-Z]+)\\))?(:.*)?");
    private static final Check check = new Check();

    public static void main(String[] args) throws Exception {
        String readme = Files.readString(Path.of("README.md"));
        runExamples(readme);
        namesEachTest(readme);
        check.due(".ci/run can be run", Files.isExecutable(Path.of(".ci/run")) ? 1 : 0, 1);
        check.finish();
    }

    private static void runExamples(String readme) throws Exception {
        Set<String> shown = new TreeSet<>();
        StringBuilder source = new StringBuilder("public final class ReadmeExamples {\n");
        int examples = 0;
        for (Matcher m = EXAMPLE.matcher(readme); m.find(); examples++) {
            source.append("public static void example").append(examples).append("() {\n");
            for (String line : m.group(1).split("\n")) {
                source.append(checked(line, shown)).append('\n');
            }
            source.append("}\n");
        }
        source.append("public static int wrong;\nstatic void due(String call, int got, int want) {\n")
            .append("if (got != want) {\nwrong++;\nSystem.out.println(\"README.md: \" + call + \" answered \" + got);\n")
            .append("}\n}\n}\n");
        showsEachCall(shown);
        compileAndRun(source.toString(), examples);
    }

    /** A line that is a call tells its answer; all other lines stay as they are. */
    private static String checked(String line, Set<String> shown) {
        Matcher m = CALL.matcher(line);
        if (!m.matches()) {
            check.due("an answer in '" + line + "'", line.startsWith("x.") ? 1 : 0, 0);
            return line;
        }
        shown.add(m.group(2));
        if (m.group(5) != null) {
            check.due("the constant in '" + line + "'", constant(m.group(5)), Integer.parseInt(m.group(3)));
        }
        return "due(\"" + line.replace("\"", "\\\"") + "\", " + m.group(1) + ", " + m.group(3) + ");";
    }

    private static int constant(String name) {
        switch (name) {
            case "BAD": return PooledWaves.BAD;
            case "STATE": return PooledWaves.STATE;
            case "FULL": return PooledWaves.FULL;
            case "NONE": return PooledWaves.NONE;
            default: return 0;
        }
    }

    private static void showsEachCall(Set<String> shown) {
        for (Method m : PooledWaves.class.getDeclaredMethods()) {
            if (Modifier.isPublic(m.getModifiers())) {
                check.due("README.md shows an answer of " + m.getName(), shown.contains(m.getName()) ? 1 : 0, 1);
            }
        }
    }

    private static void compileAndRun(String source, int examples) throws Exception {
        Path work = Files.createTempDirectory("readme");
        try {
            Path file = Files.writeString(work.resolve("ReadmeExamples.java"), source);
            int compiled = ToolProvider.getSystemJavaCompiler().run(null, null, null, "-d", work.toString(),
                "-cp", System.getProperty("java.class.path"), file.toString());
            check.due("the examples of README.md compile", compiled, 0);
            if (compiled == 0) {
                runCompiled(work, examples);
            }
        } finally {
            remove(work);
        }
    }

    private static void runCompiled(Path work, int examples) throws Exception {
        try (URLClassLoader loader = new URLClassLoader(new URL[] {work.toUri().toURL()})) {
            Class<?> compiled = loader.loadClass("ReadmeExamples");
            for (int k = 0; k < examples; k++) {
                compiled.getMethod("example" + k).invoke(null);
            }
            check.due("wrong answers in README.md", compiled.getField("wrong").getInt(null), 0);
        }
    }

    private static void remove(Path directory) throws IOException {
        try (Stream<Path> files = Files.list(directory)) {
            for (Path file : files.toList()) {
                Files.delete(file);
            }
        }
        Files.delete(directory);
    }

    private static void namesEachTest(String readme) throws IOException {
        Set<String> named = new TreeSet<>();
        for (Matcher m = Pattern.compile("(?m)^\\| `(\\w+Test)` \\|").matcher(readme); m.find();) {
            named.add(m.group(1));
        }
        Set<String> there = new TreeSet<>();
        try (Stream<Path> files = Files.list(Path.of("src/test/java"))) {
            files.map(file -> file.getFileName().toString()).filter(name -> name.endsWith("Test.java"))
                .forEach(name -> there.add(name.substring(0, name.length() - ".java".length())));
        }
        check.due("the table of README.md names " + named + ", there are " + there, named.equals(there) ? 1 : 0, 1);
    }
}
