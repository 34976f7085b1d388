import java.io.IOException;
import java.net.URL;
import java.net.URLClassLoader;
import java.nio.file.Files;
import java.nio.file.Path;
import java.util.function.BiConsumer;
import java.util.regex.Matcher;
import java.util.regex.Pattern;
import java.util.stream.Stream;
import javax.tools.ToolProvider;

/** The Java that README.md shows is compiled and run: each answer that it shows behind a call is what the class answers. */
public final class ReadmeTest {
    private static final Pattern BLOCK = Pattern.compile("```java\n(.*?)```", Pattern.DOTALL);
    private static final Pattern SHOWN = Pattern.compile("(int \\w+ = )?(g\\.\\w+\\([^;]*\\));\\s+// ([A-Z]+|-?\\d+)(:.*)?");

    private static int shown = 0;

    public static void main(String[] args) throws Exception {
        StringBuilder program = new StringBuilder();
        Matcher block = BLOCK.matcher(Files.readString(Path.of("README.md")));
        while (block.find()) {
            block.group(1).lines().forEach(row -> program.append(asCheck(row)).append('\n'));
        }
        Check.due("answers that README.md shows: " + shown + ", fewer than 60", shown < 60 ? 1 : 0, 0);
        run(program.toString());
        Check.end();
    }

    /** A row that shows an answer becomes one that hands on what is answered and what is shown. */
    private static String asCheck(String row) {
        Matcher m = SHOWN.matcher(row);
        if (!m.matches()) {
            Check.due("README.md shows an answer in another form: " + row, row.contains("//") ? 1 : 0, 0);
            return row;
        }
        shown++;
        return "due.accept(\"" + m.group(2) + "\", new int[] {" + m.group(2) + ", " + Story.number(m.group(3)) + "});";
    }

    private static void run(String rows) throws Exception {
        Path dir = Files.createTempDirectory("readme");
        try {
            Path file = dir.resolve("Shown.java");
            Files.writeString(file, "public final class Shown {\n"
                + "public static void run(java.util.function.BiConsumer<String, int[]> due) {\n" + rows + "}\n}\n");
            int failed = ToolProvider.getSystemJavaCompiler().run(null, null, null,
                "-cp", System.getProperty("java.class.path"), "-d", dir.toString(), file.toString());
            Check.due("README.md's Java compiles", failed, 0);
            BiConsumer<String, int[]> due = (call, both) -> Check.due("README.md: " + call, both[0], both[1]);
            try (URLClassLoader loader = new URLClassLoader(new URL[] {dir.toUri().toURL()})) {
                loader.loadClass("Shown").getMethod("run", BiConsumer.class).invoke(null, due);
            }
        } finally {
            remove(dir);
        }
    }

    private static void remove(Path dir) throws IOException {
        try (Stream<Path> files = Files.list(dir)) {
            for (Path file : files.toList()) {
                Files.delete(file);
            }
        }
        Files.delete(dir);
    }
}
