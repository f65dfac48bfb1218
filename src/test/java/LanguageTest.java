import java.io.IOException;
import java.nio.file.Files;
import java.nio.file.Path;
import java.util.Arrays;
import java.util.List;
import java.util.regex.Matcher;
import java.util.regex.Pattern;

/** The rules of LANGUAGE.md that can be seen in the class's text; the path of its file is the first argument. */
public final class LanguageTest {
    private static final String[] RULED_OUT = {"finally", "synchronized", "assert", "protected", "hashCode", "getMessage", "package",
        "native", "volatile", "Thread", "Random", "::", "->", "System\\.(?!arraycopy)", "\\w+Exact\\b", "static \\{",
        "Arrays\\.(?!copyOf\\b|copyOfRange\\b|fill\\b)", "try \\(", "extends \\w*(Exception|Error)\\b",
        "catch \\([^)]*\\b(Exception|Throwable|\\w*Error|NullPointer\\w*|Array\\w+|ClassCast\\w*|NegativeArray\\w*)\\b"};
    private static final List<String> FACE = Arrays.asList("feed", "end", "letter", "fault", "part", "melt", "turn", "ease",
        "plainest", "again", "cost", "look", "same", "write", "taped", "ask", "days", "count");

    public static void main(String[] args) throws IOException {
        String path = args.length > 0 ? args[0] : "src/main/java/PlainWords.java";
        String text = Files.readString(Path.of(path));
        String code = text.replaceAll("(?s)/\\*.*?\\*/", "").replaceAll("//[^\n]*", "").replaceAll("\"[^\"\n]*\"", "\"\"");
        code = code.replaceAll("(?m)^ *(case [^:;{]*|default) ->", "");
        Desk.due("signs beyond 127", text.chars().filter(c -> c > 127).count(), 0L);
        for (String word : RULED_OUT) {
            boolean wordly = word.matches("[a-zA-Z]+");
            Matcher m = Pattern.compile(wordly ? "\\b" + word + "\\b" : word).matcher(code);
            Desk.due(word + " stands in the class", m.find(), false);
        }
        imports(code);
        Desk.due("too many classes", found(code, "\\b(class|interface|enum) [A-Z]") > 12, false);
        Desk.due("outer classes", found("\n" + code, "\n(public )?(final )?class "), 1);
        methods(code);
        statics(code);
        Desk.finish();
    }

    private static int found(String code, String what) {
        Matcher m = Pattern.compile(what).matcher(code);
        int n = 0;
        while (m.find()) {
            n++;
        }
        return n;
    }

    private static void imports(String code) {
        Matcher m = Pattern.compile("import ([^;]*);").matcher(code);
        while (m.find()) {
            boolean free = m.group(1).matches("java\\.util\\.(ArrayList|List|Arrays|NoSuchElementException|Iterator)");
            Desk.due("import " + m.group(1), free, true);
        }
    }

    private static void methods(String code) {
        Pattern head = Pattern.compile("^( +)((?:public |private |static |final )*)[\\w<>\\[\\]]+ (\\w+)\\(([^)]*)\\)[^;{]*\\{$",
                Pattern.MULTILINE);
        Matcher m = head.matcher(code);
        int seen = 0;
        while (m.find()) {
            if (m.group(3).matches("if|for|while|switch|do") || m.group(0).trim().startsWith("else")) {
                continue;
            }
            seen++;
            int close = code.indexOf("\n" + m.group(1) + "}", m.end());
            long lines = code.substring(m.start(), close).chars().filter(c -> c == '\n').count() + 1;
            Desk.due(m.group(3) + " is too long", lines > 60, false);
            Desk.due(m.group(3) + " has too many parameters", m.group(4).split(",").length > 7, false);
            boolean open = m.group(2).contains("public");
            Desk.due(m.group(3) + " bears a name of the face", !open && FACE.contains(m.group(3)), false);
        }
        Desk.due("methods seen", seen >= FACE.size(), true);
    }

    private static void statics(String code) {
        Matcher m = Pattern.compile("static (?!final )[^;{(]*[;=]").matcher(code);
        Desk.due("a static field that is not final", m.find(), false);
    }
}
