import java.io.IOException;
import java.lang.reflect.Method;
import java.lang.reflect.Modifier;
import java.net.URL;
import java.net.URLClassLoader;
import java.nio.file.Files;
import java.nio.file.Path;
import java.util.ArrayList;
import java.util.List;
import java.util.stream.Stream;
import javax.tools.ToolProvider;

/** README.md tells the truth: its example answers what it says, and it names each call and test. */
public final class ReadmeTest {
    private static final Check CHECK = new Check("ReadmeTest");

    public static void main(String[] args) throws Exception {
        String readme = Files.readString(Path.of("README.md"));
        theExample(readme);
        eachCallIsNamed(readme);
        eachTestIsNamed(readme);
        CHECK.end();
    }

    private static void theExample(String readme) throws Exception {
        CHECK.rule("README.md: the example answers what stands behind its calls");
        List<String> lines = exampleOf(readme);
        CHECK.equal("there is an example", true, lines.size() > 1);
        StringBuilder body = new StringBuilder("public class ReadmeExample {\n"
            + "    public static String[] answers() {\n        String[] got = new String["
            + lines.size() + "];\n");
        for (int k = 0; k < lines.size(); k++) {
            String call = lines.get(k).replaceFirst(";.*", "");
            body.append(dueOf(lines.get(k)).isEmpty() ? call
                : "got[" + k + "] = String.valueOf(" + call + ")").append(";\n");
        }
        String[] got = answersOf(body.append("return got; } }\n").toString());
        for (int k = 0; k < lines.size(); k++) {
            String due = dueOf(lines.get(k));
            CHECK.equal(lines.get(k), due, due.isEmpty() ? "" : got[k]);
        }
    }

    /** The lines of the first block of Java. */
    private static List<String> exampleOf(String readme) {
        List<String> lines = new ArrayList<>();
        boolean isInside = false;
        for (String line : readme.split("\n")) {
            if (line.equals("```") && isInside) {
                return lines;
            }
            if (isInside && !line.isBlank()) {
                lines.add(line);
            }
            isInside |= line.equals("```java");
        }
        return lines;
    }

    /** The number or boolean that the line's comment begins with; empty if there is no comment. */
    private static String dueOf(String line) {
        int comment = line.indexOf("// ");
        return comment < 0 ? "" : line.substring(comment + 3).split("[^-\\w]", 2)[0];
    }

    private static String[] answersOf(String source) throws Exception {
        Path directory = Files.createTempDirectory("readme");
        try {
            Path file = Files.writeString(directory.resolve("ReadmeExample.java"), source);
            int failed = ToolProvider.getSystemJavaCompiler().run(null, null, null, "-cp",
                System.getProperty("java.class.path"), "-d", directory.toString(), file.toString());
            if (failed != 0) {
                return new String[source.length()];
            }
            URL[] where = {directory.toUri().toURL()};
            try (URLClassLoader loader = new URLClassLoader(where)) {
                Method answers = loader.loadClass("ReadmeExample").getMethod("answers");
                return (String[]) answers.invoke(null);
            }
        } finally {
            delete(directory);
        }
    }

    private static void delete(Path directory) throws IOException {
        try (Stream<Path> files = Files.list(directory)) {
            for (Path file : files.toList()) {
                Files.delete(file);
            }
        }
        Files.delete(directory);
    }

    private static void eachCallIsNamed(String readme) {
        CHECK.rule("README.md: each call has its place in the table of calls");
        for (Method m : Cardgate.class.getDeclaredMethods()) {
            if (Modifier.isPublic(m.getModifiers())) {
                CHECK.equal(m.getName(), true, readme.contains("`" + m.getName() + "("));
            }
        }
    }

    private static void eachTestIsNamed(String readme) throws IOException {
        CHECK.rule("README.md: each test has its row in the table of tests");
        try (Stream<Path> files = Files.list(Path.of("src/test/java"))) {
            for (Path file : files.toList()) {
                String name = file.getFileName().toString().replace(".java", "");
                CHECK.equal(name, name.endsWith("Test"), readme.contains("| `" + name + "` |"));
            }
        }
    }
}
