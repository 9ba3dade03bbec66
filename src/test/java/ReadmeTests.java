import java.io.File;
import java.io.IOException;
import java.lang.reflect.InvocationTargetException;
import java.net.URL;
import java.net.URLClassLoader;
import java.nio.file.Files;
import java.nio.file.Path;
import java.util.List;
import java.util.Set;
import java.util.TreeSet;
import java.util.regex.Matcher;
import java.util.regex.Pattern;
import java.util.stream.Stream;
import javax.tools.ToolProvider;

/** README.md holds as it stands written: its example is compiled and run, its list of test classes is whole. */
public final class ReadmeTests {
    private static final Path README = Path.of("README.md"), TESTS = Path.of("src/test/java");
    private static final Pattern ANSWERED = Pattern.compile("(cam\\.\\w+\\(.*?\\)); +// .*: (-?\\d+)");
    private static final Pattern TEST_NAME = Pattern.compile("\\b\\w+Tests\\b");
    private static final int FEWEST_ANSWERS = 20;

    private static final Checks CHECKS = new Checks("the page");

    public static void main(String[] args) throws IOException, ReflectiveOperationException {
        List<String> page = Files.readAllLines(README);
        theExampleHolds(page);
        theListIsWhole(page);
        CHECKS.end();
    }

    /** Called by the compiled example. */
    public static void due(String call, long got, long want) {
        CHECKS.due(call, got, want);
    }

    private static void theExampleHolds(List<String> page) throws IOException, ReflectiveOperationException {
        StringBuilder source = new StringBuilder("public final class ReadmeUse { public static void main(String[] a) {\n");
        int answers = 0;
        for (String line : block(page, "```java")) {
            Matcher answered = ANSWERED.matcher(line);
            if (answered.matches()) {
                answers++;
                String call = answered.group(1);
                source.append("ReadmeTests.due(\"").append(call).append("\", ").append(call).append(", ")
                    .append(answered.group(2)).append(");\n");
            } else {
                CHECKS.due("an answer is told by: " + line, line.startsWith("cam."), false);
                source.append(line).append('\n');
            }
        }
        CHECKS.due("the example has answers", answers >= FEWEST_ANSWERS, true);
        compileAndRun(source.append("} }\n").toString());
    }

    private static List<String> block(List<String> page, String opening) {
        int from = page.indexOf(opening) + 1, to = from;
        if (from == 0) throw new IllegalStateException("no block " + opening);
        while (to < page.size() && !page.get(to).equals("```")) to++;
        return page.subList(from, to);
    }

    private static void compileAndRun(String source) throws IOException, ReflectiveOperationException {
        Path folder = Files.createTempDirectory("readme"), file = folder.resolve("ReadmeUse.java");
        Files.writeString(file, source);
        String classes = System.getProperty("java.class.path");
        int refused = ToolProvider.getSystemJavaCompiler().run(null, null, null, "-Xlint:all", "-Werror",
            "-cp", classes, "-d", folder.toString(), file.toString());
        CHECKS.due("the example compiles", refused, 0);
        if (refused == 0) run(folder);
        for (File one : folder.toFile().listFiles()) one.delete();
        folder.toFile().delete();
    }

    private static void run(Path folder) throws IOException, ReflectiveOperationException {
        try (URLClassLoader loader = new URLClassLoader(new URL[] {folder.toUri().toURL()})) {
            loader.loadClass("ReadmeUse").getMethod("main", String[].class).invoke(null, (Object) new String[0]);
        } catch (InvocationTargetException thrown) {
            CHECKS.due("the example ends", "by " + thrown.getCause(), "by itself");
        }
    }

    private static void theListIsWhole(List<String> page) throws IOException {
        Set<String> named = new TreeSet<>(), there = new TreeSet<>();
        Matcher names = TEST_NAME.matcher(String.join("\n", page));
        while (names.find()) named.add(names.group());
        try (Stream<Path> files = Files.list(TESTS)) {
            files.map(file -> file.getFileName().toString().replace(".java", ""))
                .filter(name -> name.endsWith("Tests")).forEach(there::add);
        }
        CHECKS.due("test classes that are named", named.toString(), there.toString());
    }
}
