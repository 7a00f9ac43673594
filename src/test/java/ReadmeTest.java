import java.io.IOException;
import java.lang.reflect.Method;
import java.lang.reflect.Modifier;
import java.net.URL;
import java.net.URLClassLoader;
import java.nio.file.Files;
import java.nio.file.Path;
import java.util.ArrayList;
import java.util.List;
import java.util.regex.Matcher;
import java.util.regex.Pattern;
import javax.tools.JavaCompiler;
import javax.tools.ToolProvider;

/** The example of README.md answers as it says there, and README.md names every call. */
public final class ReadmeTest {
    private static final Check CHECK = new Check("ReadmeTest");
    private static final Pattern BLOCK = Pattern.compile("```java\n(.*?)```", Pattern.DOTALL);
    private static final Pattern ROW = Pattern.compile(
            "^((?:x\\.|tell\\().*?\\));\\s*// (-?\\w+)", Pattern.DOTALL | Pattern.MULTILINE);

    public static void main(String[] args) throws IOException, ReflectiveOperationException {
        String readme = Files.readString(Path.of("README.md"));
        names(readme);
        List<String> blocks = new ArrayList<>();
        for (Matcher block = BLOCK.matcher(readme); block.find();) {
            blocks.add(block.group(1));
        }
        CHECK.due("blocks of code", 2, blocks.size());
        example(blocks.get(0), blocks.get(1));
        CHECK.finish();
    }

    private static void names(String readme) {
        for (Method method : CradleTreaty.class.getDeclaredMethods()) {
            if (Modifier.isPublic(method.getModifiers())) {
                CHECK.due(method.getName() + " is named", true, readme.contains("`" + method.getName() + "`"));
            }
        }
    }

    /** The rows become calls of row(), which keeps the call, what is said and what was answered. */
    private static void example(String helpers, String rows) throws IOException, ReflectiveOperationException {
        String calls = ROW.matcher(rows).replaceAll("row(\"$2\", $1); //");
        String source = "public final class Example {\n" + helpers
                + "static java.util.List<String> rows = new java.util.ArrayList<>();\n"
                + "static void row(String said, Object answered) { rows.add(said + \" \" + answered); }\n"
                + "public static java.util.List<String> run() {\n" + calls + "return rows; }\n}\n";
        List<?> answers = run(source);
        long said = rows.lines().filter(line -> line.matches(".*; *// .*")).count();
        CHECK.due("rows of the example", said, answers.size());
        for (int i = 0; i < answers.size(); i++) {
            String[] both = String.valueOf(answers.get(i)).split(" ");
            CHECK.due("row " + i + " of the example, said and answered: " + answers.get(i), true,
                    both[0].equals(both[1]));
        }
    }

    private static List<?> run(String source) throws IOException, ReflectiveOperationException {
        JavaCompiler compiler = ToolProvider.getSystemJavaCompiler();
        Path out = Files.createTempDirectory("readme");
        Path file = out.resolve("Example.java");
        Files.writeString(file, source);
        int failed = compiler.run(null, null, null, "-cp", System.getProperty("java.class.path"),
                "-d", out.toString(), file.toString());
        CHECK.due("the example is compiled", 0, failed);
        try (URLClassLoader loader = new URLClassLoader(new URL[] {out.toUri().toURL()})) {
            return failed != 0 ? List.of() : (List<?>) loader.loadClass("Example").getMethod("run").invoke(null);
        } finally {
            Files.deleteIfExists(file);
            Files.deleteIfExists(out.resolve("Example.class"));
            Files.deleteIfExists(out);
        }
    }
}
