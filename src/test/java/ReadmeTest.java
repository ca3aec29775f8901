import java.io.ByteArrayOutputStream;
import java.io.PrintStream;
import java.net.URL;
import java.net.URLClassLoader;
import java.nio.file.Files;
import java.nio.file.Path;
import javax.tools.ToolProvider;

/** The example of README.md compiles, and prints what stands below it. */
public final class ReadmeTest {
    public static void main(String[] args) throws Exception {
        String readme = Files.readString(Path.of("README.md"));
        String due = block(readme, "```text\n");
        String got = printed(block(readme, "```java\n"));
        if (!got.equals(due)) {
            System.out.println("the example printed:\n" + got);
        }
        Harness.due("the example prints what README.md says", got.equals(due), true);
        Harness.finish();
    }

    private static String block(String text, String fence) {
        int start = text.indexOf(fence);
        Harness.due("README.md has a block " + fence.trim(), start >= 0, true);
        if (start < 0) {
            return "";
        }
        return text.substring(start + fence.length(), text.indexOf("```", start + fence.length()));
    }

    private static String printed(String example) throws Exception {
        Path directory = Files.createTempDirectory("readme");
        Path source = directory.resolve("Example.java");
        Path compiled = directory.resolve("Example.class");
        PrintStream usual = System.out;
        ByteArrayOutputStream bytes = new ByteArrayOutputStream();
        try {
            Files.writeString(source, example);
            int answer = ToolProvider.getSystemJavaCompiler().run(null, null, null, "-cp", System.getProperty("java.class.path"),
                "-d", directory.toString(), source.toString());
            Harness.due("javac of the example", answer, 0);
            if (answer != 0) {
                return "";
            }
            System.setOut(new PrintStream(bytes, true));
            try (URLClassLoader loader = new URLClassLoader(new URL[] {directory.toUri().toURL()})) {
                loader.loadClass("Example").getMethod("main", String[].class).invoke(null, (Object) new String[0]);
            }
        } finally {
            System.setOut(usual);
            Files.deleteIfExists(source);
            Files.deleteIfExists(compiled);
            Files.delete(directory);
        }
        return bytes.toString();
    }
}
