import java.io.IOException;
import java.net.URL;
import java.net.URLClassLoader;
import java.nio.file.Files;
import java.nio.file.Path;
import java.util.List;
import java.util.regex.Matcher;
import java.util.regex.Pattern;
import javax.tools.ToolProvider;

/** Runs the lines of Java in README.md, and compares each answer with the one that stands behind it there. */
public final class ReadmeTest {
    private static final Check CHECK = new Check("ReadmeTest");
    private static final Pattern LINE = Pattern.compile("(\\w+\\..*);\\s*(?:// (-?\\d+|true|false|\\w+Exception)\\b.*)?");

    private ReadmeTest() {
    }

    public static void main(String[] args) throws IOException, ReflectiveOperationException {
        String code = program(Files.readAllLines(Path.of("README.md")));
        // Under build, as all that is made by tests.
        Path place = Files.createDirectories(Path.of("build", "readme"));
        Path file = Files.writeString(place.resolve("Readme.java"), code);
        int failed = ToolProvider.getSystemJavaCompiler().run(null, null, null,
            "-cp", System.getProperty("java.class.path"), "-d", place.toString(), file.toString());
        CHECK.compare("javac of the lines", "0", Integer.toString(failed));
        if (failed == 0) {
            run(place);
        }
        CHECK.end();
    }

    private static String program(List<String> page) {
        StringBuilder program = new StringBuilder("public final class Readme {\n public static void run() {\n");
        boolean java = false;
        for (String line : page) {
            if (line.startsWith("```")) {
                java = line.equals("```java");
            } else if (java) {
                program.append(checked(line)).append('\n');
            }
        }
        return program.append(" }\n}\n").toString();
    }

    private static String checked(String line) {
        Matcher parts = LINE.matcher(line);
        if (!parts.matches() || parts.group(2) == null) {
            return line;
        }
        return "ReadmeTest.due(\"" + parts.group(1) + "\", \"" + parts.group(2) + "\", () -> " + parts.group(1) + ");";
    }

    public interface Answer {
        Object get();
    }

    public static void due(String call, String due, Answer answer) {
        String got;
        try {
            got = answer.get().toString();
        } catch (RuntimeException e) {
            got = e.getClass().getSimpleName();
        }
        CHECK.compare(call, due, got);
    }

    private static void run(Path place) throws IOException, ReflectiveOperationException {
        URL[] places = {place.toUri().toURL()};
        try (URLClassLoader loader = new URLClassLoader(places, ReadmeTest.class.getClassLoader())) {
            loader.loadClass("Readme").getMethod("run").invoke(null);
        }
    }
}
