import java.io.File;
import java.io.IOException;
import java.io.OutputStream;
import java.nio.charset.StandardCharsets;
import java.nio.file.Files;
import java.nio.file.Path;
import java.util.ArrayList;
import java.util.Collections;
import java.util.List;
import java.util.Set;
import java.util.TreeSet;
import java.util.concurrent.ExecutorService;
import java.util.concurrent.Executors;
import java.util.concurrent.TimeUnit;
import java.util.concurrent.atomic.AtomicInteger;
import java.util.regex.Matcher;
import java.util.regex.Pattern;
import javax.tools.ToolProvider;

/**
 * A test of the tests, run by hand: breaks the class in one small place at a time and runs BoundsTest on each broken one.
 * Tells the broken classes that pass all the same, and the boundary cases that no break has made fail.
 * Arguments: the class's file, the directory of the compiled tests, and a directory to work in.
 */
public final class BrokenCheck {
    private static final long SECONDS = 30;
    private static final String ENDED_WELL = "ended well";
    private static final String HOLDS = "holds  ";
    private static final String VALUE = "return (?!NONE|null|true|false)[^;]+;";
    private static final String BIG = "\\b([2-9]|[1-9][0-9]+)\\b(?![L'])";
    private static final String[][] BREAKS = {
        {" < ", " <= "}, {" <= ", " < "}, {" > ", " >= "}, {" >= ", " > "}, {" == ", " != "}, {" != ", " == "},
        {" && ", " || "}, {" \\|\\| ", " && "}, {"(?<=[(= ])!(?=[a-z(])", ""}, {"\\btrue\\b", "false"}, {"\\bfalse\\b", "true"},
        {" \\+ ", " - "}, {" - ", " + "}, {"\\+\\+;", "--;"}, {" & ", " | "}, {" \\|= ", " &= "}, {" &= ", " |= "}, {" \\+= ", " -= "},
        {"\\b0\\b(?![xL])", "1"}, {"\\b1\\b(?!L)", "2"}, {"\\b1\\b(?!L)", "0"}, {BIG, "$1 + 1"}, {BIG, "($1 - 1)"},
        {"Math\\.min", "Math.max"}, {"Math\\.max", "Math.min"}, {"\\? ([^:?]+) : ([^;?]+);", "? $2 : $1;"},
        {VALUE, "return null;"}, {VALUE, "return 0;"}, {VALUE, "return true;"}, {VALUE, "return false;"},
        {"^( +)[\\w.]+\\([^;=]*\\);$", "$1;"}, {"^( +)[\\w.\\[\\]]+ [|&+]?= [^;]+;$", "$1;"}, {"^( +)\\w+\\+\\+;$", "$1;"},
        {"throw new \\w+", "throw new ArithmeticException"}, {"\"([a-z]+)\"", "\"$1x\""}
    };

    private final String[] lines;
    private final String tests;
    private final Path room;
    private final List<String> survivors = Collections.synchronizedList(new ArrayList<>());
    private final Set<String> madeToFail = Collections.synchronizedSet(new TreeSet<>());
    private final ExecutorService pool = Executors.newFixedThreadPool(Runtime.getRuntime().availableProcessors());
    private final AtomicInteger compiled = new AtomicInteger();
    private int tried = 0;

    private BrokenCheck(String source, String tests, Path room) {
        this.lines = source.split("\n");
        this.tests = tests;
        this.room = room;
    }

    public static void main(String[] args) throws IOException, InterruptedException {
        BrokenCheck check = new BrokenCheck(Files.readString(Path.of(args[0])), args[1], Path.of(args[2]));
        Set<String> neverFailed = named(check.run(args[1]), HOLDS);
        check.breakAll();
        check.survivors.stream().sorted().forEach(s -> System.out.println("passes        " + s));
        neverFailed.removeAll(check.madeToFail);
        neverFailed.forEach(name -> System.out.println("never failed  " + name));
        System.out.println(check.compiled.get() + " broken classes of " + check.tried + " tried compile, " + check.survivors.size() + " pass");
    }

    private void breakAll() throws InterruptedException {
        for (int at = 0; at < lines.length; at++) {
            String text = lines[at].trim();
            if (text.startsWith("/") || text.startsWith("import")) {
                continue;
            }
            for (String[] change : BREAKS) {
                for (int k = 0; breakOne(at, change, k); k++) {
                    tried++;
                }
            }
        }
        pool.shutdown();
        pool.awaitTermination(2, TimeUnit.HOURS);
    }

    /** Makes the change at the k-th place of the line where it can be made; false if there is none. */
    private boolean breakOne(int at, String[] change, int k) {
        Matcher m = Pattern.compile(change[0]).matcher(lines[at]);
        for (int i = 0; i <= k; i++) {
            if (!m.find()) {
                return false;
            }
        }
        StringBuilder line = new StringBuilder();
        m.appendReplacement(line, change[1]);
        line.append(lines[at].substring(m.end()));
        int number = tried;
        pool.submit(() -> {
            tryOne(number, at, line.toString());
            return null;
        });
        return true;
    }

    private void tryOne(int number, int at, String broken) throws IOException, InterruptedException {
        Path dir = room.resolve("broken" + number);
        Files.createDirectories(dir);
        Path file = dir.resolve("PlainWords.java");
        String[] copy = lines.clone();
        copy[at] = broken;
        Files.writeString(file, String.join("\n", copy));
        OutputStream nowhere = OutputStream.nullOutputStream();
        if (ToolProvider.getSystemJavaCompiler().run(null, nowhere, nowhere, "-d", dir.toString(), file.toString()) != 0) {
            return;
        }
        compiled.incrementAndGet();
        List<String> told = run(dir + File.pathSeparator + tests);
        madeToFail.addAll(named(told, Bounds.BROKEN));
        if (told.contains(ENDED_WELL)) {
            survivors.add(String.format("%5d  %s  ->  %s", at + 1, lines[at].trim(), broken.trim()));
        }
    }

    /** What BoundsTest prints with these classes; nothing if it does not end. */
    private List<String> run(String classes) throws IOException, InterruptedException {
        Path out = Files.createTempFile(room, "out", ".txt");
        Process process = new ProcessBuilder("java", "-XX:TieredStopAtLevel=1", "-XX:+UseSerialGC", "-Dtell=true", "-cp", classes, "BoundsTest")
                .redirectErrorStream(true).redirectOutput(out.toFile()).start();
        if (!process.waitFor(SECONDS, TimeUnit.SECONDS)) {
            process.destroyForcibly();
            return List.of();
        }
        List<String> told = new ArrayList<>(Files.readAllLines(out, StandardCharsets.ISO_8859_1));
        if (process.exitValue() == 0) {
            told.add(ENDED_WELL);
        }
        return told;
    }

    private static Set<String> named(List<String> told, String how) {
        Set<String> names = new TreeSet<>();
        for (String line : told) {
            if (line.startsWith(how)) {
                names.add(line.substring(how.length()));
            }
        }
        return names;
    }
}
