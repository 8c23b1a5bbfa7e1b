import java.io.IOException;
import java.net.URL;
import java.net.URLClassLoader;
import java.nio.charset.StandardCharsets;
import java.nio.file.Files;
import java.nio.file.Path;
import java.util.Comparator;
import java.util.List;
import java.util.regex.Matcher;
import java.util.regex.Pattern;
import java.util.stream.Stream;
import javax.tools.ToolProvider;

/** The run of calls in README.md: each answers what stands behind it. */
public final class ReadmeTest {
    private static final Check CHECK = new Check();
    private static final Pattern ASKED = Pattern.compile("(x\\.\\w+\\(.*\\));\\s*// (-?\\d+)(:.*)?");
    private static final int FEWEST_ANSWERS = 40;

    private ReadmeTest() {
    }

    public static void main(String[] args) throws IOException, ReflectiveOperationException {
        CHECK.about("README.md");
        String test = testOf(Files.readString(Path.of("README.md"), StandardCharsets.UTF_8));
        Path made = Files.createTempDirectory("readme");
        try {
            run(test, made);
        } finally {
            remove(made);
        }
        CHECK.end();
    }

    /** Called by what is made of README.md. */
    public static void due(String call, long got, long want) {
        CHECK.due(call, got, want);
    }

    private static String testOf(String readme) {
        int start = readme.indexOf("```java\n") + 8;
        String[] lines = readme.substring(start, readme.indexOf("```", start)).split("\n");
        StringBuilder test = new StringBuilder("public final class Told { public static void run() {\n");
        int answers = 0;
        for (String line : lines) {
            Matcher asked = ASKED.matcher(line);
            if (asked.matches()) {
                answers++;
                String call = asked.group(1);
                test.append("ReadmeTest.due(\"").append(call).append("\", ").append(call).append(", ")
                        .append(asked.group(2)).append("L);\n");
            } else {
                // A call whose answer can't be read here would go unasked.
                CHECK.due("a line without an answer: " + line, line.startsWith("x.") ? 1 : 0, 0);
                test.append(line).append('\n');
            }
        }
        CHECK.due("some forty answers", answers >= FEWEST_ANSWERS ? 1 : 0, 1);
        return test.append("}}\n").toString();
    }

    private static void run(String test, Path made) throws IOException, ReflectiveOperationException {
        Path source = Files.writeString(made.resolve("Told.java"), test, StandardCharsets.UTF_8);
        int failed = ToolProvider.getSystemJavaCompiler().run(null, null, null,
                "-cp", System.getProperty("java.class.path"), "-d", made.toString(), source.toString());
        CHECK.due("compiling it", failed, 0);
        if (failed != 0) {
            return;
        }
        try (URLClassLoader loader = new URLClassLoader(new URL[] {made.toUri().toURL()})) {
            loader.loadClass("Told").getMethod("run").invoke(null);
        }
    }

    private static void remove(Path made) throws IOException {
        try (Stream<Path> files = Files.walk(made)) {
            List<Path> inside = files.sorted(Comparator.reverseOrder()).toList();
            for (Path file : inside) {
                Files.delete(file);
            }
        }
    }
}
