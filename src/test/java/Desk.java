import java.nio.charset.StandardCharsets;
import java.util.function.Supplier;

/** What the tests share: a class under test that is fed texts, and a tally of answers that are not as due. */
final class Desk {
    private static int wrong = 0;

    final Counted words = new Counted();

    static void due(String call, Object got, Object want) {
        if (!got.equals(want)) {
            fail(call + " answered " + got + ", due is " + want);
        }
    }

    static void fail(String what) {
        wrong++;
        System.out.println(what);
    }

    static void finish() {
        if (wrong > 0) {
            System.out.println(wrong + " answers are not as due");
            System.exit(1);
        }
    }

    static boolean anyWrong() {
        return wrong > 0;
    }

    static int wrongSoFar() {
        return wrong;
    }

    /** The answer, or the name of the exception that came. */
    static String answer(Supplier<Object> call) {
        try {
            return String.valueOf(call.get());
        } catch (RuntimeException e) {
            return e.getClass().getSimpleName();
        }
    }

    static void dueOf(String call, Supplier<Object> got, Object want) {
        due(call, answer(got), String.valueOf(want));
    }

    /** The tape becomes the text. */
    void tape(String text) {
        words.end(0);
        feed(text);
    }

    /** The text comes behind what the tape has. */
    void feed(String text) {
        byte[] bytes = text.getBytes(StandardCharsets.ISO_8859_1);
        int before = words.count(2);
        for (int from = 0; from < bytes.length; from += 20) {
            int[] n = new int[5];
            for (int i = 0; i < 20; i++) {
                int b = from + i < bytes.length ? bytes[from + i] & 255 : 0;
                n[i / 4] = n[i / 4] << 8 | b;
            }
            words.feed(n[0], n[1], n[2], n[3], n[4]);
        }
        words.end(before + bytes.length);
    }

    String taped() {
        StringBuilder text = new StringBuilder();
        int size = Math.min(words.count(2), 400);
        for (int i = 0; i < size; i++) {
            text.append((char) words.taped(i));
        }
        return text.toString();
    }

    static Desk reading(String text) {
        Desk desk = new Desk();
        desk.read(text);
        return desk;
    }

    /** Reads a text that is due to be right. */
    void read(String text) {
        tape(text);
        String answer = answer(words::letter);
        due("letter() is right of \"" + text + "\"", answer.matches("[1-8]"), true);
    }

    /** Reads a text that is due to be wrong. */
    void refuse(String text) {
        tape(text);
        dueOf("letter() of \"" + text + "\"", words::letter, "IllegalArgumentException");
    }

    /** The new letter, as it is written. */
    String written() {
        words.write();
        return taped();
    }

    /** All that can be seen without changing it, but for how conditions are written. */
    String state() {
        StringBuilder seen = new StringBuilder(taped());
        for (int what = 0; what <= 4; what++) {
            seen.append('|').append(words.count(what));
        }
        seen.append('|').append(words.fault());
        for (boolean old : new boolean[] {true, false}) {
            seen.append('|').append(answer(() -> words.cost(old)));
        }
        int sentences = words.count(1);
        for (int i = 0; i < sentences; i++) {
            for (int what = 0; what <= 8; what++) {
                seen.append(what == 0 ? '|' : ' ').append(words.look(i, what));
            }
        }
        return seen.toString();
    }

    static void dueRead(String text, int sentences) {
        Desk desk = new Desk();
        desk.tape(text);
        dueOf("letter() of \"" + text + "\"", desk.words::letter, sentences);
        due("fault() of \"" + text + "\"", desk.words.fault(), -1);
        due("count(0) of \"" + text + "\"", desk.words.count(0), sentences);
        due("count(1) of \"" + text + "\"", desk.words.count(1), sentences);
        due("count(2) of \"" + text + "\"", desk.words.count(2), 0);
        due("count(3) of \"" + text + "\"", desk.words.count(3), 1);
    }

    static void dueFault(String text, int at) {
        Desk desk = new Desk();
        desk.refuse(text);
        due("fault() of \"" + text + "\"", desk.words.fault(), at);
        due("count(2) behind \"" + text + "\"", desk.words.count(2), 0);
        due("count(3) behind \"" + text + "\"", desk.words.count(3), 0);
    }

    /** The first wrong byte is where ^ stands; the ^ itself is no part of the text. */
    static void dueFaultAtMark(String marked) {
        int at = marked.indexOf('^');
        dueFault(marked.substring(0, at) + marked.substring(at + 1), at);
    }

    static void dueWritten(String text, String want) {
        due("written of \"" + text + "\"", reading(text).written(), want);
    }
}
