import java.io.ByteArrayOutputStream;
import java.io.IOException;
import java.io.PrintStream;
import java.net.URL;
import java.net.URLClassLoader;
import java.nio.charset.StandardCharsets;
import java.nio.file.Files;
import java.nio.file.Path;
import javax.tools.ToolProvider;

/** The example of README.md compiles beside the class and prints what README.md says; the class's file is the first argument. */
public final class ReadmeTest {
    private static final String NAME = "Example";

    public static void main(String[] args) throws IOException, ReflectiveOperationException {
        Path source = Path.of(args.length > 0 ? args[0] : "src/main/java/PlainWords.java").toAbsolutePath();
        Path readme = source.resolve("../../../../README.md").normalize();
        String text = Files.readString(readme);
        Path room = Files.createTempDirectory("readme");
        try {
            Path example = room.resolve(NAME + ".java");
            Files.writeString(example, block(text, "java"));
            String[] call = {"-d", room.toString(), source.toString(), example.toString()};
            int failed = ToolProvider.getSystemJavaCompiler().run(null, null, null, call);
            Desk.due("the example of README.md compiles, exit code", failed, 0);
            if (failed == 0) {
                Desk.due("what the example of README.md prints", printed(room), block(text, "text"));
            }
        } finally {
            clear(room);
        }
        Desk.finish();
    }

    /** The first block of README.md that is marked as such. */
    private static String block(String text, String mark) {
        int begin = text.indexOf("```" + mark + "\n");
        int end = text.indexOf("\n```\n", begin + 1);
        if (begin < 0 || end < 0) {
            Desk.fail("README.md has no block of " + mark);
            return "";
        }
        return text.substring(text.indexOf('\n', begin) + 1, end + 1);
    }

    private static String printed(Path room) throws IOException, ReflectiveOperationException {
        ByteArrayOutputStream bytes = new ByteArrayOutputStream();
        PrintStream before = System.out;
        // The class that the example is compiled with is the one of its own directory, not that of the tests.
        URL[] where = {room.toUri().toURL()};
        try (URLClassLoader loader = new URLClassLoader(where, ClassLoader.getPlatformClassLoader())) {
            System.setOut(new PrintStream(bytes, true, StandardCharsets.UTF_8));
            loader.loadClass(NAME).getMethod("main", String[].class).invoke(null, (Object) new String[0]);
        } finally {
            System.setOut(before);
        }
        return bytes.toString(StandardCharsets.UTF_8).replace(System.lineSeparator(), "\n");
    }

    private static void clear(Path room) throws IOException {
        try (var files = Files.list(room)) {
            for (Path file : (Iterable<Path>) files::iterator) {
                Files.delete(file);
            }
        }
        Files.delete(room);
    }
}
