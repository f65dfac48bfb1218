import java.io.IOException;
import java.nio.charset.StandardCharsets;
import java.nio.file.Files;
import java.nio.file.Path;
import java.util.stream.Stream;

/** The example of README.md compiles beside the class and prints what README.md says; the class's file is the first argument. */
public final class ReadmeTest {
    private static final String NAME = "Example";

    public static void main(String[] args) throws IOException, InterruptedException {
        Path source = Path.of(args.length > 0 ? args[0] : "src/main/java/PlainWords.java").toAbsolutePath();
        String text = Files.readString(source.resolve("../../../../README.md").normalize());
        Path room = Files.createTempDirectory("readme");
        try {
            Path example = room.resolve(NAME + ".java");
            Files.writeString(example, block(text, "java"));
            run("", "javac", "-Xlint:all", "-Werror", "-d", room.toString(), source.toString(), example.toString());
            run(block(text, "text"), "java", "-cp", room.toString(), NAME);
        } finally {
            clear(room);
        }
        Desk.finish();
    }

    /** The first block of README.md that is marked as such. */
    private static String block(String text, String mark) {
        int begin = text.indexOf("```" + mark + "\n");
        int end = text.indexOf("\n```\n", begin + 1);
        if (begin < 0 || end < 0) {
            Desk.fail("README.md has no block of " + mark);
            return "";
        }
        return text.substring(text.indexOf('\n', begin) + 1, end + 1);
    }

    /** What a command says beside its output goes to the test's own: a machine may say there how it was started. */
    private static void run(String due, String... command) throws IOException, InterruptedException {
        Process process = new ProcessBuilder(command).redirectError(ProcessBuilder.Redirect.INHERIT).start();
        String told = new String(process.getInputStream().readAllBytes(), StandardCharsets.UTF_8);
        Desk.due(command[0] + " of the example of README.md, exit code", process.waitFor(), 0);
        Desk.due("what " + command[0] + " of the example of README.md prints", told, due);
    }

    private static void clear(Path room) throws IOException {
        try (Stream<Path> files = Files.list(room)) {
            for (Path file : (Iterable<Path>) files::iterator) {
                Files.delete(file);
            }
        }
        Files.delete(room);
    }
}
