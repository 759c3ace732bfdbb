import java.io.IOException;
import java.lang.reflect.InvocationTargetException;
import java.net.URL;
import java.net.URLClassLoader;
import java.nio.file.Files;
import java.nio.file.Path;
import java.util.ArrayList;
import java.util.List;
import java.util.function.Supplier;
import java.util.regex.Matcher;
import java.util.regex.Pattern;

/** The examples of README.md, made into one program: each line with "// -> " answers what stands there. */
public final class ReadmeTest {
    private static final Path README = Path.of("README.md");
    private static final Pattern TOLD = Pattern.compile("(.+);\\s+// -> (.+)");

    private static int asked = 0;
    private static int wrong = 0;

    public static void main(String[] args) throws IOException, InterruptedException,
            ReflectiveOperationException {
        Path folder = Files.createTempDirectory("readme");
        try {
            compile(folder);
            run(folder);
        } finally {
            for (String file : new String[] {"ReadmeExamples.java", "ReadmeExamples.class", ""}) {
                Files.deleteIfExists(folder.resolve(file));
            }
        }
        System.out.println(asked + " answers of README.md, " + wrong + " wrong");
        if (wrong != 0 || asked == 0) {
            System.exit(1);
        }
    }

    /** For the examples alone. */
    public static void due(int line, String answer, Supplier<Object> call) {
        String got;
        try {
            got = String.valueOf(call.get());
        } catch (RuntimeException e) {
            got = "throws " + e.getClass().getSimpleName();
        }
        asked++;
        if (!got.equals(answer)) {
            wrong++;
            System.out.println("README.md, line " + line + ": '" + got + "', told is '" + answer + "'");
        }
    }

    /** With the javac that .ci/run needs, too. */
    private static void compile(Path folder) throws IOException, InterruptedException {
        Path source = folder.resolve("ReadmeExamples.java");
        Files.writeString(source, program());
        int failed = new ProcessBuilder("javac", "-encoding", "UTF-8", "-cp", System.getProperty("java.class.path"),
                "-d", folder.toString(), source.toString()).inheritIO().start().waitFor();
        if (failed != 0) {
            throw new AssertionError("the examples of README.md do not compile");
        }
    }

    private static void run(Path folder) throws IOException, ReflectiveOperationException {
        try (URLClassLoader loader = new URLClassLoader(new URL[] {folder.toUri().toURL()})) {
            loader.loadClass("ReadmeExamples").getMethod("run").invoke(null);
        } catch (InvocationTargetException e) {
            throw new AssertionError("the examples of README.md end early", e.getCause());
        }
    }

    /** What begins with a method stands beside run(), all else within it. */
    private static String program() throws IOException {
        StringBuilder methods = new StringBuilder();
        StringBuilder body = new StringBuilder();
        List<String> lines = Files.readAllLines(README);
        List<String> block = null;
        for (int i = 0; i < lines.size(); i++) {
            if (lines.get(i).equals("```java")) {
                block = new ArrayList<>();
            } else if (block != null && lines.get(i).equals("```")) {
                boolean isMethod = !block.isEmpty() && block.get(0).startsWith("static ");
                (isMethod ? methods : body).append(String.join("\n", block)).append('\n');
                block = null;
            } else if (block != null) {
                block.add(asked(lines.get(i), i + 1));
            }
        }
        return "public final class ReadmeExamples {\n" + methods + "public static void run() {\n" + body + "}\n}\n";
    }

    private static String asked(String line, int number) {
        Matcher m = TOLD.matcher(line);
        if (!m.matches()) {
            return line;
        }
        return "ReadmeTest.due(" + number + ", \"" + m.group(2) + "\", () -> " + m.group(1) + ");";
    }
}
