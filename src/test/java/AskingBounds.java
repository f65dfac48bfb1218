/** The boundary cases of what letters ask for: promises 14, 17 and 18. */
final class AskingBounds {
    private static final int LEAST = Integer.MIN_VALUE;
    private static final int MOST = Integer.MAX_VALUE;

    private AskingBounds() {
    }

    static void all() {
        Bounds.bound(14, "the NEW one is as that at first: the SAME", AskingBounds::sameAtFirst);
        Bounds.bound(14, "they ask for the same in each of the 64 CASES: behind all TURNS", AskingBounds::sameBehindTurns);
        Bounds.bound(14, "however often", AskingBounds::howeverOften);
        Bounds.bound(14, "IllegalStateException: there is no LETTER", AskingBounds::sameWithoutLetter);
        Bounds.bound(17, "WHO (0 to 2, 3 nobody)", AskingBounds::eachWho);
        Bounds.bound(17, "0 of another WHO", AskingBounds::anotherWho);
        Bounds.bound(17, "for an act (0 to 9, and each of three)", AskingBounds::eachAct);
        Bounds.bound(17, "0 of another act", AskingBounds::anotherAct);
        Bounds.bound(17, "1 must, 2 must not, 4 may, together (each once)", AskingBounds::together);
        Bounds.bound(17, "0 nothing", AskingBounds::nothing);
        Bounds.bound(17, "a SENTENCE counts, if its if is true (or there is none)", AskingBounds::ifIsTrue);
        Bounds.bound(17, "and its unless is not (or there is none)", AskingBounds::unlessIsNot);
        Bounds.bound(17, "a CASE: a set of the cases 0 to 5, as bits (higher bits are none)", AskingBounds::higherBits);
        Bounds.bound(17, "What the OLD LETTER, or the NEW one, asks", AskingBounds::oldOrNew);
        Bounds.bound(17, "IllegalStateException: there is no LETTER", AskingBounds::askWithoutLetter);
        Bounds.bound(18, "The least days (of several, in any order; 1 and 365)", AskingBounds::leastDays);
        Bounds.bound(18, "within which WHO must do an act: not may, not must not", AskingBounds::mustAlone);
        Bounds.bound(18, "in a CASE", AskingBounds::daysInACase);
        Bounds.bound(18, "NONE without such: without days, or of another WHO or act", AskingBounds::noDays);
        Bounds.bound(18, "of the NEW LETTER", AskingBounds::daysOfTheNewOne);
        Bounds.bound(18, "IllegalStateException: there is no LETTER", AskingBounds::daysWithoutLetter);
    }

    private static void dueAsk(Desk desk, int who, int act, int cases, int want) {
        String call = ", " + who + ", " + act + ", " + cases + ")";
        Desk.due("ask(false" + call, desk.words.ask(false, who, act, cases), want);
        Desk.due("ask(true" + call, desk.words.ask(true, who, act, cases), want);
    }

    private static boolean so(int cases, int k) {
        return (cases >> k & 1) == 1;
    }

    private static void sameAtFirst() {
        Desk desk = Desk.reading("if case 0 and not case 0,we may act 1");
        Desk.due("same() of one that asks for nothing", desk.words.same(), true);
        desk.read("act 1 and act 2 must be done unless case 1 within 3");
        Desk.due("same() of the next one", desk.words.same(), true);
        desk.words.part(0);
        desk.refuse("nonsense");
        Desk.due("same() behind a wrong letter", desk.words.same(), true);
        desk.words.again();
        Desk.due("same() again", desk.words.same(), true);
    }

    private static void sameBehindTurns() {
        Desk desk = Desk.reading("if not not case 0 or case 1,act 1 and act 2 and act 3 must not be done by we unless case 2 and not case 3 within 9;"
                + "act 4 may be done;you may act 5 unless not case 5");
        Desk.due("part(0)", desk.words.part(0), true);
        Desk.due("same() behind part", desk.words.same(), true);
        Desk.due("turn(1)", desk.words.turn(1), true);
        Desk.due("same() behind turn", desk.words.same(), true);
        Desk.due("ease(2)", desk.words.ease(2), true);
        Desk.due("same() behind ease", desk.words.same(), true);
        Desk.due("turn(0)", desk.words.turn(0), true);
        Desk.due("melt(0)", desk.words.melt(0), true);
        Desk.due("same() behind melt", desk.words.same(), true);
        Desk.due("ease(3)", desk.words.ease(3), true);
        Desk.due("same() of all", desk.words.same(), true);
        desk.words.plainest();
        Desk.due("same() of the plainest", desk.words.same(), true);
    }

    /** Of two that ask for the same, one is parted or eased: each asks for it still, in other words. */
    private static void howeverOften() {
        Desk desk = Desk.reading("we may act 1 and act 2 unless case 1;we may act 2 and act 1 unless case 1;we may act 1");
        desk.words.part(1);
        Desk.due("same() behind part(1)", desk.words.same(), true);
        desk.words.ease(0);
        Desk.due("same() behind ease(0)", desk.words.same(), true);
        desk.words.ease(2);
        Desk.due("same() behind ease(2)", desk.words.same(), true);
    }

    private static void sameWithoutLetter() {
        Desk desk = new Desk();
        Desk.dueOf("same()", desk.words::same, "IllegalStateException");
        desk.refuse("we may act 1;");
        Desk.dueOf("same() behind a wrong letter", desk.words::same, "IllegalStateException");
    }

    private static void eachWho() {
        String[] bodies = {"you must act 1", "we must act 1", "they must act 1", "act 1 must be done"};
        for (int told = 0; told <= 3; told++) {
            Desk desk = Desk.reading(bodies[told]);
            for (int asked = 0; asked <= 3; asked++) {
                dueAsk(desk, asked, 1, 0, asked == told ? 1 : 0);
            }
        }
        Desk byThem = Desk.reading("act 1 must be done by they");
        dueAsk(byThem, 2, 1, 0, 1);
        dueAsk(byThem, 3, 1, 0, 0);
    }

    private static void anotherWho() {
        Desk desk = Desk.reading("you must act 1;we must act 1;they must act 1;act 1 must be done");
        for (int who : new int[] {-1, 4, 5, LEAST, MOST}) {
            dueAsk(desk, who, 1, 0, 0);
        }
    }

    private static void eachAct() {
        Desk desk = Desk.reading("you must act 9 and act 0 and act 4");
        for (int act = 0; act <= 9; act++) {
            dueAsk(desk, 0, act, 0, act == 9 || act == 0 || act == 4 ? 1 : 0);
        }
    }

    private static void anotherAct() {
        Desk desk = Desk.reading("you must act 0 and act 1 and act 2;you must act 3 and act 4 and act 5;you must act 6 and act 7 and act 8;"
                + "you must act 9");
        for (int act : new int[] {-1, 10, 11, LEAST, MOST}) {
            dueAsk(desk, 0, act, 0, 0);
        }
    }

    private static void together() {
        String[] modes = {"must", "must not", "may"};
        for (int set = 1; set < 8; set++) {
            StringBuilder text = new StringBuilder("we may act 2");
            for (int k = 0; k < 3; k++) {
                // Each mode is told twice: it is asked for all the same.
                text.append(so(set, k) ? (";you " + modes[k] + " act 1").repeat(2) : "");
            }
            dueAsk(Desk.reading(text.toString()), 0, 1, 0, set);
        }
    }

    private static void nothing() {
        Desk desk = Desk.reading("if case 0 and not case 0,you must act 1;you may act 2");
        for (int cases : new int[] {0, 1, 62, 63}) {
            dueAsk(desk, 0, 1, cases, 0);
        }
        dueAsk(desk, 0, 3, 0, 0);
        dueAsk(desk, 1, 2, 0, 0);
    }

    private static void ifIsTrue() {
        Desk desk = Desk.reading("if case 0 or case 1 and not(case 2 or case 3),we may act 1;we may act 2");
        for (int cases = 0; cases < 64; cases++) {
            boolean counts = so(cases, 0) || so(cases, 1) && !(so(cases, 2) || so(cases, 3));
            dueAsk(desk, 1, 1, cases, counts ? 4 : 0);
        }
        dueAsk(desk, 1, 2, 0, 4);
        dueAsk(desk, 1, 2, 63, 4);
    }

    private static void unlessIsNot() {
        Desk desk = Desk.reading("we may act 1 unless case 4 and case 5;if case 0,we must act 2 unless case 0;if case 0,we must act 3 unless case 1");
        for (int cases = 0; cases < 64; cases++) {
            dueAsk(desk, 1, 1, cases, so(cases, 4) && so(cases, 5) ? 0 : 4);
        }
        for (int cases = 0; cases < 64; cases++) {
            Desk.due("ask of act 2 in " + cases, desk.words.ask(true, 1, 2, cases), 0);
            Desk.due("ask of act 3 in " + cases, desk.words.ask(false, 1, 3, cases), (cases & 3) == 1 ? 1 : 0);
        }
    }

    private static void higherBits() {
        Desk desk = Desk.reading("if case 5,we may act 1;if not case 0,we must act 1");
        int[] cases = {0, 63, 32, 1, 64, 64 + 32, 127, -1, -64, LEAST, MOST, LEAST + 32};
        int[] want = {1, 4, 5, 0, 1, 5, 4, 4, 1, 1, 4, 5};
        for (int i = 0; i < cases.length; i++) {
            dueAsk(desk, 1, 1, cases[i], want[i]);
        }
    }

    private static void oldOrNew() {
        Desk desk = Desk.reading("act 1 and act 2 must be done by we unless case 0 within 8;you may act 3");
        desk.words.part(0);
        desk.words.turn(1);
        desk.words.ease(0);
        for (int cases = 0; cases < 64; cases += 9) {
            dueAsk(desk, 1, 1, cases, so(cases, 0) ? 0 : 1);
            dueAsk(desk, 1, 2, cases, so(cases, 0) ? 0 : 1);
            dueAsk(desk, 0, 3, cases, 4);
            dueAsk(desk, 3, 1, cases, 0);
        }
    }

    private static void askWithoutLetter() {
        Desk desk = new Desk();
        Desk.dueOf("ask(true, 0, 0, 0)", () -> desk.words.ask(true, 0, 0, 0), "IllegalStateException");
        Desk.dueOf("ask(false, 4, 10, -1)", () -> desk.words.ask(false, 4, 10, -1), "IllegalStateException");
        desk.refuse("we may act 1;");
        Desk.dueOf("ask(false, 0, 0, 0)", () -> desk.words.ask(false, 0, 0, 0), "IllegalStateException");
    }

    private static void dueDays(String text, int who, int act, int cases, int want) {
        Desk desk = Desk.reading(text);
        Desk.due("days(" + who + ", " + act + ", " + cases + ") of " + text, desk.words.days(who, act, cases), want);
    }

    private static void leastDays() {
        dueDays("we must act 1 within 1", 1, 1, 0, 1);
        dueDays("we must act 1 within 365", 1, 1, 0, 365);
        dueDays("we must act 1 within 365;we must act 1 within 1;we must act 1 within 30", 1, 1, 0, 1);
        dueDays("we must act 1 within 2;we must act 1 within 3", 1, 1, 0, 2);
        dueDays("we must act 1 within 3;we must act 1 within 2", 1, 1, 0, 2);
        dueDays("we must act 1;we must act 1 within 5", 1, 1, 0, 5);
        dueDays("we must act 1 within 5;act 1 must be done by we", 1, 1, 0, 5);
        dueDays("act 1 must be done within 6;we must act 1 within 5", 3, 1, 0, 6);
    }

    private static void mustAlone() {
        dueDays("we may act 1 within 3", 1, 1, 0, -1);
        dueDays("we must not act 1 within 3", 1, 1, 0, -1);
        dueDays("we may act 1 within 3;we must not act 1 within 2;we must act 1 within 9", 1, 1, 0, 9);
        dueDays("we may act 1 within 3;we must act 1", 1, 1, 0, -1);
    }

    private static void daysInACase() {
        Desk desk = Desk.reading("if case 0,we must act 1 within 3;we must act 1 within 9 ;we must act 2 unless case 5 within 7");
        for (int cases = 0; cases < 64; cases++) {
            Desk.due("days of act 1 in " + cases, desk.words.days(1, 1, cases), so(cases, 0) ? 3 : 9);
            Desk.due("days of act 2 in " + cases, desk.words.days(1, 2, cases), so(cases, 5) ? -1 : 7);
        }
        Desk.due("days of act 1 in 64", desk.words.days(1, 1, 64), 9);
        Desk.due("days of act 1 in -1", desk.words.days(1, 1, -1), 3);
        Desk.due("days of act 2 in -1", desk.words.days(1, 2, -1), -1);
    }

    private static void noDays() {
        Desk desk = Desk.reading("we must act 1;we must act 2 within 3;act 3 must be done within 4");
        Desk.due("days without days", desk.words.days(1, 1, 0), -1);
        Desk.due("days of nobody", desk.words.days(3, 3, 0), 4);
        Desk.due("days of nobody's, asked of we", desk.words.days(1, 3, 0), -1);
        Desk.due("days of we's, asked of nobody", desk.words.days(3, 2, 0), -1);
        for (int other : new int[] {-1, 10, 11, LEAST, MOST}) {
            Desk.due("days of act " + other, desk.words.days(1, other, 0), -1);
            Desk.due("days of who " + (other == 10 ? 4 : other), desk.words.days(other == 10 ? 4 : other, 2, 0), -1);
        }
        Desk.due("days of you", desk.words.days(0, 2, 0), -1);
        Desk.due("days of they", desk.words.days(2, 2, 0), -1);
    }

    private static void daysOfTheNewOne() {
        Desk desk = Desk.reading("act 1 and act 2 must be done by we unless case 0 within 8");
        desk.words.part(0);
        desk.words.turn(1);
        desk.words.ease(1);
        for (int act = 1; act <= 2; act++) {
            Desk.due("days of act " + act + " in 0", desk.words.days(1, act, 0), 8);
            Desk.due("days of act " + act + " in 1", desk.words.days(1, act, 1), -1);
        }
        desk.read("act 1 must be done by we within 9");
        Desk.due("days of the next one", desk.words.days(1, 1, 0), 9);
        Desk.due("days of act 2", desk.words.days(1, 2, 0), -1);
    }

    private static void daysWithoutLetter() {
        Desk desk = new Desk();
        Desk.dueOf("days(0, 0, 0)", () -> desk.words.days(0, 0, 0), "IllegalStateException");
        Desk.dueOf("days(4, 10, -1)", () -> desk.words.days(4, 10, -1), "IllegalStateException");
        desk.refuse("we may act 1;");
        Desk.dueOf("days(0, 0, 0)", () -> desk.words.days(0, 0, 0), "IllegalStateException");
    }
}
