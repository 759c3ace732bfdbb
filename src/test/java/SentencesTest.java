import java.io.IOException;
import java.lang.reflect.Method;
import java.nio.file.DirectoryStream;
import java.nio.file.Files;
import java.nio.file.Path;
import java.util.Map;
import java.util.TreeMap;
import java.util.TreeSet;
import java.util.Set;

/** Each sentence that a test names stands in the document where it says, and no part of it is without a test. */
public final class SentencesTest {
    private static final Path DOCUMENT = Path.of("../shared/DOC.md");
    private static final Path TESTS = Path.of("src/test/java");

    public static void main(String[] args) throws IOException, ClassNotFoundException {
        Map<String, String> parts = parts();
        Set<String> without = new TreeSet<>(parts.keySet());
        int wrong = 0;
        int tests = 0;
        try (DirectoryStream<Path> files = Files.newDirectoryStream(TESTS, "*Test.java")) {
            for (Path file : files) {
                String name = file.getFileName().toString().replace(".java", "");
                for (Method m : Sentences.of(Class.forName(name))) {
                    tests++;
                    String[] said = m.getAnnotation(Sentence.class).value().split(": ", 2);
                    without.remove(said[0]);
                    if (!parts.containsKey(said[0]) || !parts.get(said[0]).contains(said[1])) {
                        wrong++;
                        System.out.println(name + "." + m.getName() + ": not so in the document: " + said[1]);
                    }
                }
            }
        }
        without.removeIf(part -> !part.matches("Promise .*|Terms .*|Behind .*"));
        System.out.println(tests + " sentences looked up, " + wrong + " wrong, parts without a test: " + without);
        if (wrong != 0 || !without.isEmpty()) {
            System.exit(1);
        }
    }

    /** The document's parts by name, each with single spaces. */
    private static Map<String, String> parts() throws IOException {
        Map<String, String> parts = new TreeMap<>();
        String part = "";
        for (String line : Files.readAllLines(DOCUMENT)) {
            if (line.startsWith("## ")) {
                part = line.substring(3).split(":")[0];
            } else if (part.startsWith("Terms") && line.matches("[1-4]\\. [A-Z][a-z ]*")) {
                part = "Terms " + line.charAt(0);
            } else if (line.startsWith("If several exceptions apply")) {
                part = "Behind the terms";
            }
            parts.merge(part, line.trim().replaceAll("\\s+", " "), (a, b) -> b.isEmpty() ? a : a + " " + b);
        }
        return parts;
    }
}
