import java.nio.charset.StandardCharsets;
import java.util.NoSuchElementException;
import java.util.function.Supplier;

/** What the tests share: a class under test that is fed texts, and a tally of answers that are not as due. */
final class Desk {
    private static int wrong = 0;

    final PlainWords words = new PlainWords();

    static void due(String call, Object got, Object want) {
        if (!got.equals(want)) {
            wrong++;
            System.out.println(call + " answered " + got + ", due is " + want);
        }
    }

    static void finish() {
        if (wrong > 0) {
            System.out.println(wrong + " answers are not as due");
            System.exit(1);
        }
    }

    static boolean anyWrong() {
        return wrong > 0;
    }

    /** The answer, or the name of the exception that came. */
    static String answer(Supplier<Object> call) {
        try {
            return String.valueOf(call.get());
        } catch (RuntimeException e) {
            return e.getClass().getSimpleName();
        }
    }

    static void dueOf(String call, Supplier<Object> got, Object want) {
        due(call, answer(got), String.valueOf(want));
    }

    /** The tape becomes the text. */
    void tape(String text) {
        words.end(0);
        byte[] bytes = text.getBytes(StandardCharsets.ISO_8859_1);
        for (int from = 0; from < bytes.length; from += 20) {
            int[] n = new int[5];
            for (int i = 0; i < 20; i++) {
                int b = from + i < bytes.length ? bytes[from + i] & 255 : 0;
                n[i / 4] = n[i / 4] << 8 | b;
            }
            words.feed(n[0], n[1], n[2], n[3], n[4]);
        }
        words.end(bytes.length);
    }

    String taped() {
        StringBuilder text = new StringBuilder();
        for (int i = 0; words.taped(i) != PlainWords.NONE; i++) {
            text.append((char) words.taped(i));
        }
        return text.toString();
    }

    static Desk reading(String text) {
        Desk desk = new Desk();
        desk.tape(text);
        dueIsRead(desk, text);
        return desk;
    }

    private static void dueIsRead(Desk desk, String text) {
        String answer = answer(desk.words::letter);
        due("letter() is right of \"" + text + "\"", answer.matches("[1-8]"), true);
    }

    /** The new letter, as it is written. */
    String written() {
        words.write();
        return taped();
    }

    static void dueFault(String text, int at) {
        Desk desk = new Desk();
        desk.tape(text);
        dueOf("letter() of \"" + text + "\"", desk.words::letter, "IllegalArgumentException");
        due("fault() of \"" + text + "\"", desk.words.fault(), at);
        due("count(2) behind \"" + text + "\"", desk.words.count(2), 0);
        due("count(3) behind \"" + text + "\"", desk.words.count(3), 0);
    }
}
