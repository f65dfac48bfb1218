/** Promises 10, 12 and 13: what a sentence is made of, what it costs and the plainest letter. */
public final class CostTest {
    public static void main(String[] args) {
        looking();
        costing();
        plainest();
        plainestWays();
        plainestIsOfTheOldOne();
        Desk.finish();
    }

    private static void looking() {
        dueLooks("you must act 1", 1, 0, 0, -1, 0, 4, 9, 0, 0);
        dueLooks("we must not act 1 and act 2", 2, 1, 1, -1, 0, 8, 13, 0, 0);
        dueLooks("they may act 1 and act 2 and act 3 within 365", 3, 2, 2, 365, 0, 12, 21, 0, 0);
        dueLooks("act 4 must be done", 1, 3, 0, -1, 1, 5, 13, 0, 0);
        dueLooks("act 4 must not be done by they within 1", 1, 2, 1, 1, 1, 10, 18, 0, 0);
        dueLooks("if not case 1,we may act 1", 1, 1, 2, -1, 0, 8, 15, 1, 0);
        dueLooks("if not(case 1 or not case 2),we may act 1 unless not not case 3", 1, 1, 2, -1, 0, 17, 48, 4, 1);
        // Eleven words cost twice the one above ten.
        dueLooks("you must act 1 and act 2 within 3", 2, 0, 0, 3, 0, 9, 14, 0, 0);
        dueLooks("we must not act 1 and act 2 within 3", 2, 1, 1, 3, 0, 10, 15, 0, 0);
        dueLooks("we must not act 1 and act 2 and act 3", 3, 1, 1, -1, 0, 11, 18, 0, 0);
        Desk desk = Desk.reading("you must act 1");
        Desk.dueOf("look(0, 9)", () -> desk.words.look(0, 9), "NoSuchElementException");
        Desk.dueOf("look(0, least)", () -> desk.words.look(0, Integer.MIN_VALUE), "NoSuchElementException");
    }

    private static void dueLooks(String text, int... want) {
        Desk desk = Desk.reading(text);
        for (int what = 0; what < want.length; what++) {
            Desk.due("look(0, " + what + ") of " + text, desk.words.look(0, what), want[what]);
        }
    }

    private static void costing() {
        Desk desk = Desk.reading("act 1 may be done by we;act 2 may be done by you");
        Desk.due("cost(true)", desk.words.cost(true), 30);
        Desk.due("cost(false)", desk.words.cost(false), 30);
        desk.words.turn(1);
        Desk.due("cost(true)", desk.words.cost(true), 30);
        Desk.due("cost(false)", desk.words.cost(false), 24);
    }

    private static void plainest() {
        duePlainest("we may act 1", 9, "we may act 1");
        duePlainest("act 1 may be done by we", 9, "we may act 1");
        duePlainest("act 1 may be done", 13, "act 1 may be done");
        duePlainest("if not not case 1,we may act 1", 12, "if case 1, we may act 1");
        // An unless costs four, the not of it three, and more where it makes ten words eleven.
        duePlainest("we may act 1 unless case 1", 15, "if not case 1, we may act 1");
        duePlainest("we may act 1 unless not case 1", 12, "if case 1, we may act 1");
        duePlainest("if case 1,we may act 1 unless case 2", 19, "if case 1, we may act 1 unless case 2");
        duePlainest("act 1 and act 2 and act 3 must be done by they;act 1 may be done by we unless not case 1", 27,
                "they must act 1 and act 2 and act 3; if case 1, we may act 1");
    }

    private static void duePlainest(String text, int price, String want) {
        Desk desk = Desk.reading(text);
        Desk.due("plainest() of " + text, desk.words.plainest(), price);
        Desk.due("cost(false) of " + text, desk.words.cost(false), price);
        Desk.due("plainest of " + text, desk.written(), want);
        Desk.due("count(4) of " + text, desk.words.count(4), 0);
        Desk.due("same() of " + text, desk.words.same(), true);
    }

    /** EASE of an unless takes four and brings three, or five where there are ten words or more. */
    private static void plainestWays() {
        duePlainest("act 1 may be done unless case 1", 19, "if not case 1, act 1 may be done");
        duePlainest("act 1 may be done unless case 1 within 3", 22, "act 1 may be done unless case 1 within 3");
        duePlainest("we may act 1 unless case 1 within 3", 17, "if not case 1, we may act 1 within 3");
        duePlainest("act 1 may be done by we unless case 1 within 3", 17, "if not case 1, we may act 1 within 3");
        duePlainest("we must not act 1 unless case 1 within 3", 19, "we must not act 1 unless case 1 within 3");
        duePlainest("act 1 must not be done by we unless case 1 within 3", 19, "we must not act 1 unless case 1 within 3");
        duePlainest("if not not case 0,act 1 must be done unless case 1", 26, "if case 0 and not case 1, act 1 must be done");
    }

    private static void plainestIsOfTheOldOne() {
        Desk desk = Desk.reading("we may act 1 and act 2;act 3 may be done by you");
        desk.words.part(0);
        desk.words.part(1);
        Desk.due("plainest() behind turns", desk.words.plainest(), 21);
        Desk.due("plainest behind turns", desk.written(), "we may act 1 and act 2; you may act 3");
        Desk.due("plainest() again", desk.words.plainest(), 21);
        Desk.due("the old one stays", desk.words.cost(true), 27);
        desk.words.again();
        Desk.due("the old one", desk.written(), "we may act 1 and act 2; act 3 may be done by you");
    }
}
