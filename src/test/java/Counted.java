/** The class under test, called no more than the document promises: what a 513th call answers is free. */
final class Counted {
    private static final int MOST_CALLS = 512;

    private final PlainWords words = new PlainWords();
    private int calls = 0;

    private PlainWords next() {
        calls++;
        if (calls == MOST_CALLS + 1) {
            Desk.fail("a test calls one object more than " + MOST_CALLS + " times");
        }
        return words;
    }

    int callsLeft() {
        return MOST_CALLS - calls;
    }

    int feed(int a, int b, int c, int d, int e) {
        return next().feed(a, b, c, d, e);
    }

    boolean end(int n) {
        return next().end(n);
    }

    int letter() {
        return next().letter();
    }

    int fault() {
        return next().fault();
    }

    boolean part(int sentence) {
        return next().part(sentence);
    }

    boolean melt(int sentence) {
        return next().melt(sentence);
    }

    boolean turn(int sentence) {
        return next().turn(sentence);
    }

    boolean ease(int sentence) {
        return next().ease(sentence);
    }

    int plainest() {
        return next().plainest();
    }

    void again() {
        next().again();
    }

    int cost(boolean old) {
        return next().cost(old);
    }

    int look(int sentence, int what) {
        return next().look(sentence, what);
    }

    boolean same() {
        return next().same();
    }

    int write() {
        return next().write();
    }

    int taped(int i) {
        return next().taped(i);
    }

    int ask(boolean old, int who, int act, int cases) {
        return next().ask(old, who, act, cases);
    }

    int days(int who, int act, int cases) {
        return next().days(who, act, cases);
    }

    int count(int what) {
        return next().count(what);
    }
}
