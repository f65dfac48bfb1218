import java.nio.charset.StandardCharsets;
import java.util.Random;

/** All promises: long runs of chance calls, right and wrong ones, answered by the class as by the model. */
public final class ModelTest {
    private static final int RUNS = 1500;

    private final Random chance;
    private final Counted words = new Counted();
    private final Model model = new Model();
    private final StringBuilder history = new StringBuilder();

    private ModelTest(long seed) {
        chance = new Random(seed);
    }

    public static void main(String[] args) {
        for (int seed = 0; seed < RUNS && !Desk.anyWrong(); seed++) {
            new ModelTest(seed).run();
        }
        Desk.finish();
    }

    private void run() {
        for (int letters = 0; words.callsLeft() > 0 && !Desk.anyWrong(); letters++) {
            if (letters < 2 && chance.nextInt(3) == 0) {
                chanceCall();
            }
            if (chance.nextInt(12) == 0) {
                check("write");
                compareTape();
            } else {
                feedText(new Letters(chance).text());
            }
            check("letter");
            check("fault");
            for (int i = chance.nextInt(60); i >= 0; i--) {
                chanceCall();
            }
        }
        if (Desk.anyWrong()) {
            System.out.println(history);
        }
    }

    private void feedText(String text) {
        check("end", 0);
        byte[] bytes = text.getBytes(StandardCharsets.ISO_8859_1);
        for (int from = 0; from < bytes.length && from < 400; from += 20) {
            int[] n = new int[5];
            for (int i = 0; i < 20; i++) {
                n[i / 4] = n[i / 4] << 8 | (from + i < bytes.length ? bytes[from + i] & 255 : chance.nextInt(256));
            }
            check("feed", n);
        }
        check("end", Math.min(bytes.length, 400));
        history.append("text: ").append(text).append('\n');
    }

    private void compareTape() {
        for (int i = 0; i <= model.taped(); i += 1 + chance.nextInt(3)) {
            check("taped", i);
        }
    }

    private void chanceCall() {
        int sentence = chance.nextInt(20) == 0 ? chance.nextInt(30) - 3 : chance.nextInt(Math.max(1, model.size()));
        int cases = chance.nextInt(20) == 0 ? chance.nextInt() : chance.nextInt(64);
        int act = chance.nextInt(12) - 1;
        int who = chance.nextInt(10) == 0 ? chance.nextInt(8) - 2 : chance.nextInt(4);
        switch (chance.nextInt(16)) {
            case 0: case 1: check("part", sentence); break;
            case 2: case 3: check("melt", sentence); break;
            case 4: check("turn", sentence); break;
            case 5: check("ease", sentence); break;
            case 6: if (chance.nextInt(4) == 0) { check("plainest"); } break;
            case 7: if (chance.nextInt(3) == 0) { check("again"); } break;
            case 8: check("cost", chance.nextInt(2)); break;
            case 9: check("look", sentence, chance.nextInt(11) - 1); break;
            case 10: check("same"); break;
            case 11: check("write"); if (chance.nextInt(3) == 0) { compareTape(); } break;
            case 12: check("taped", chance.nextInt(420) - 10); break;
            case 13: check("ask", chance.nextInt(2), who, act, cases); break;
            case 14: check("days", who, act, cases); break;
            default: check("count", chance.nextInt(7) - 1);
        }
    }

    private void check(String name, int... a) {
        if (Desk.anyWrong() || words.callsLeft() == 0) {
            return;
        }
        Object want = model.call(name, a);
        StringBuilder call = new StringBuilder(name).append(java.util.Arrays.toString(a));
        history.append(call).append(" due ").append(want).append('\n');
        Desk.dueOf(call.toString(), dueCall(name, a), want);
    }

    private java.util.function.Supplier<Object> dueCall(String name, int... a) {
        switch (name) {
            case "feed": return () -> words.feed(a[0], a[1], a[2], a[3], a[4]);
            case "end": return () -> words.end(a[0]);
            case "letter": return words::letter;
            case "fault": return words::fault;
            case "part": return () -> words.part(a[0]);
            case "melt": return () -> words.melt(a[0]);
            case "turn": return () -> words.turn(a[0]);
            case "ease": return () -> words.ease(a[0]);
            case "plainest": return words::plainest;
            case "again": return () -> { words.again(); return 0; };
            case "cost": return () -> words.cost(a[0] == 1);
            case "look": return () -> words.look(a[0], a[1]);
            case "same": return words::same;
            case "write": return words::write;
            case "taped": return () -> words.taped(a[0]);
            case "ask": return () -> words.ask(a[0] == 1, a[1], a[2], a[3]);
            case "days": return () -> words.days(a[0], a[1], a[2]);
            default: return () -> words.count(a[0]);
        }
    }
}
