import java.io.IOException;
import java.net.URL;
import java.net.URLClassLoader;
import java.nio.file.Files;
import java.nio.file.Path;
import java.util.ArrayList;
import java.util.List;
import java.util.regex.Matcher;
import java.util.regex.Pattern;
import javax.tools.ToolProvider;

/** The example of README.md compiles, and its calls give the answers that its comments tell. */
public final class ReadmeTest {
    /** A line such as: int rows = x.ask(); // 1: how many rows */
    private static final Pattern TOLD = Pattern.compile("(?:int|long) (\\w+) = (.*); +// (-?\\d+): .*");

    public static void main(String[] args) throws Exception {
        Check check = new Check();
        check.part("README.md");
        List<String> example = example();
        List<String> calls = new ArrayList<>();
        List<Long> due = new ArrayList<>();
        StringBuilder answers = new StringBuilder();
        for (String line : example) {
            Matcher told = TOLD.matcher(line);
            if (told.matches()) {
                answers.append(calls.isEmpty() ? "" : ", ").append(told.group(1));
                calls.add(told.group(2));
                due.add(Long.valueOf(told.group(3)));
            }
        }
        check.yes("the example tells answers", !calls.isEmpty());
        long[] got = run(String.join("\n", example), answers.toString());
        for (int k = 0; k < calls.size(); k++) {
            check.same(calls.get(k), got[k], due.get(k));
        }
        check.end();
    }

    /** The lines of the first block of Java. */
    private static List<String> example() throws IOException {
        List<String> lines = Files.readAllLines(Path.of("README.md"));
        List<String> behind = lines.subList(lines.indexOf("```java") + 1, lines.size());
        return behind.subList(0, behind.indexOf("```"));
    }

    private static long[] run(String example, String answers) throws Exception {
        Path room = Files.createTempDirectory("readme");
        try {
            Path source = room.resolve("Example.java");
            Files.writeString(source, "public final class Example {\n    public static long[] answers() {\n"
                    + example + "\nreturn new long[] {" + answers + "};\n    }\n}\n");
            int failed = ToolProvider.getSystemJavaCompiler().run(null, null, null, "-cp",
                    System.getProperty("java.class.path"), "-d", room.toString(), source.toString());
            if (failed != 0) {
                throw new IllegalStateException("the example does not compile");
            }
            try (URLClassLoader loader = new URLClassLoader(new URL[] {room.toUri().toURL()})) {
                return (long[]) loader.loadClass("Example").getMethod("answers").invoke(null);
            }
        } finally {
            Files.deleteIfExists(room.resolve("Example.java"));
            Files.deleteIfExists(room.resolve("Example.class"));
            Files.delete(room);
        }
    }
}
