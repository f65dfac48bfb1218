/** Promises 14, 17 and 18: what letters ask for, in all cases. */
public final class AskingTest {
    public static void main(String[] args) {
        modes();
        everyCase();
        conditions();
        days();
        oldAndNew();
        Desk.finish();
    }

    private static void modes() {
        Desk desk = Desk.reading("you must act 1;you must not act 1;you may act 1 and act 2;we must act 1;act 3 must not be done;act 3 may be done by they");
        dueAsk(desk, 0, 1, 0, 7);
        dueAsk(desk, 0, 2, 0, 4);
        dueAsk(desk, 1, 1, 0, 1);
        dueAsk(desk, 1, 2, 0, 0);
        dueAsk(desk, 2, 1, 0, 0);
        dueAsk(desk, 2, 3, 0, 4);
        dueAsk(desk, 3, 3, 0, 2);
        dueAsk(desk, 3, 1, 0, 0);
        for (int wrong : new int[] {-1, 4, 10, Integer.MIN_VALUE, Integer.MAX_VALUE}) {
            dueAsk(desk, wrong, 1, 0, 0);
            dueAsk(desk, 0, wrong == 4 ? 11 : wrong, 0, 0);
        }
    }

    private static void dueAsk(Desk desk, int who, int act, int cases, int want) {
        String call = ", " + who + ", " + act + ", " + cases + ")";
        Desk.due("ask(false" + call, desk.words.ask(false, who, act, cases), want);
        Desk.due("ask(true" + call, desk.words.ask(true, who, act, cases), want);
    }

    private static void everyCase() {
        for (int k = 0; k < 6; k++) {
            Desk desk = Desk.reading("if case " + k + ",we may act 1;we must act 1 unless case " + k);
            for (int cases = 0; cases < 64; cases++) {
                int want = (cases >> k & 1) == 1 ? 4 : 1;
                Desk.due("case " + k + " in " + cases, desk.words.ask(false, 1, 1, cases), want);
            }
            // There are no cases but 0 to 5: what stands above them tells nothing.
            Desk.due("case " + k + " in -1", desk.words.ask(false, 1, 1, -1), 4);
            Desk.due("case " + k + " in 64", desk.words.ask(false, 1, 1, 64), 1);
        }
    }

    private static void conditions() {
        Desk desk = Desk.reading("if case 0 or case 1 and not(case 2 or case 3),we may act 1 unless case 4 and case 5");
        for (int cases = 0; cases < 64; cases++) {
            boolean when = bit(cases, 0) || bit(cases, 1) && !(bit(cases, 2) || bit(cases, 3));
            boolean unless = bit(cases, 4) && bit(cases, 5);
            dueAsk(desk, 1, 1, cases, when && !unless ? 4 : 0);
        }
    }

    private static boolean bit(int cases, int k) {
        return (cases >> k & 1) == 1;
    }

    private static void days() {
        Desk desk = Desk.reading("you must act 1 within 30;if case 0,you must act 1 and act 2 within 7;you may act 1 within 3;"
                + "you must not act 1 within 2;we must act 1;act 4 must be done within 5;act 1 must be done by they within 365");
        Desk.due("days in 0", desk.words.days(0, 1, 0), 30);
        Desk.due("days in 1", desk.words.days(0, 1, 1), 7);
        Desk.due("days in 2", desk.words.days(0, 1, 2), 30);
        Desk.due("days of act 2 in 0", desk.words.days(0, 2, 0), -1);
        Desk.due("days of act 2 in 1", desk.words.days(0, 2, 1), 7);
        Desk.due("days of we, none told", desk.words.days(1, 1, 0), -1);
        Desk.due("days of they", desk.words.days(2, 1, 0), 365);
        Desk.due("days of nobody", desk.words.days(3, 4, 0), 5);
        Desk.due("days of nobody, act 1", desk.words.days(3, 1, 0), -1);
        Desk.due("days of who 4", desk.words.days(4, 1, 0), -1);
        Desk.due("days of who -1", desk.words.days(-1, 1, 0), -1);
        Desk.due("days of act -1", desk.words.days(0, -1, 0), -1);
        Desk.due("days of act 10", desk.words.days(0, 10, 0), -1);
    }

    /** As many turns done as told, of part, turn, ease and plainest. */
    private static void oldAndNew() {
        for (int turns = 0; turns <= 4; turns++) {
            Desk desk = Desk.reading("if not not case 0,act 1 and act 2 must be done by we unless case 1 or not case 2 within 8;"
                    + "we may act 1");
            Desk.due("part(0)", turns >= 1 && !desk.words.part(0), false);
            Desk.due("turn(1)", turns >= 2 && !desk.words.turn(1), false);
            Desk.due("ease(0)", turns >= 3 && !desk.words.ease(0), false);
            Desk.due("plainest()", turns >= 4 && desk.words.plainest() < 0, false);
            dueSameAsks(desk);
        }
    }

    private static void dueSameAsks(Desk desk) {
        Desk.due("same()", desk.words.same(), true);
        for (int cases = 0; cases < 64; cases++) {
            boolean counts = bit(cases, 0) && !bit(cases, 1) && bit(cases, 2);
            dueAsk(desk, 1, 1, cases, counts ? 5 : 4);
            dueAsk(desk, 1, 2, cases, counts ? 1 : 0);
            Desk.due("days in " + cases, desk.words.days(1, 2, cases), counts ? 8 : -1);
        }
    }
}
