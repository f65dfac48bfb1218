/** The boundary cases of COST, PLAINEST and look: promises 10, 12 and 13. */
final class CostBounds {
    private static final int LEAST = Integer.MIN_VALUE;
    private static final int MOST = Integer.MAX_VALUE;

    private CostBounds() {
    }

    static void all() {
        Bounds.bound(10, "where it changes nothing it is not done", CostBounds::nothingToDo);
        Bounds.bound(10, "with or without TURN: done where it can be", CostBounds::turnIsPlainer);
        Bounds.bound(10, "with or without EASE: done up to nine words, not done from ten on", CostBounds::easeUpToNine);
        Bounds.bound(10, "with or without EASE: a not not goes whatever the words", CostBounds::notNotIsPlainer);
        Bounds.bound(10, "first TURN, then EASE of what comes of it", CostBounds::turnThenEase);
        Bounds.bound(10, "with or without PART: not done where it costs more", CostBounds::partIsDearer);
        Bounds.bound(10, "SENTENCE by SENTENCE (one to eight)", CostBounds::sentenceBySentence);
        Bounds.bound(10, "of the OLD LETTER, whatever the NEW one is", CostBounds::ofTheOldOne);
        Bounds.bound(10, "its COST, and the OLD LETTER and the TAPE stay", CostBounds::oldStays);
        Bounds.bound(10, "IllegalStateException: there is no LETTER", CostBounds::plainestWithoutLetter);
        Bounds.bound(12, "its words and NUMBERS (as it is WRITTEN; signs do not count), and 5", CostBounds::wordsAndFive);
        Bounds.bound(12, "3 if it is PASSIVE", CostBounds::passive);
        Bounds.bound(12, "2 for each not in its COND (not that of must not)", CostBounds::nots);
        Bounds.bound(12, "4 for an unless", CostBounds::unless);
        Bounds.bound(12, "twice what its words and NUMBERS are above 10 (9, 10, 11, 12)", CostBounds::aboveTen);
        Bounds.bound(12, "COST of a LETTER: of all its SENTENCES (one, eight, 24)", CostBounds::ofAll);
        Bounds.bound(12, "of the OLD LETTER, or the NEW one", CostBounds::oldOrNew);
        Bounds.bound(12, "IllegalStateException: there is no LETTER", CostBounds::costWithoutLetter);
        Bounds.bound(13, "what 0 ACTS (1 to 3)", () -> looks(0, new int[] {1, 2, 3}, "we may act 1", "we may act 1 and act 2",
                "act 1 and act 2 and act 3 may be done"));
        Bounds.bound(13, "1 WHO (0 you, 1 we, 2 they, 3 nobody)", () -> looks(1, new int[] {0, 1, 2, 3, 2}, "you may act 1",
                "we may act 1", "they may act 1", "act 1 may be done", "act 1 may be done by they"));
        Bounds.bound(13, "2 MODE (0 must, 1 must not, 2 may)", () -> looks(2, new int[] {0, 1, 2}, "we must act 1",
                "we must not act 1", "we may act 1"));
        Bounds.bound(13, "3 days (NONE)", () -> looks(3, new int[] {-1, 1, 365}, "we must act 1", "we must act 1 within 1",
                "we must act 1 within 365"));
        Bounds.bound(13, "4 1 if it is PASSIVE, else 0", () -> looks(4, new int[] {0, 1, 1}, "we must act 1",
                "act 1 must be done by we", "act 1 must be done"));
        Bounds.bound(13, "5 its words and NUMBERS", () -> looks(5, new int[] {4, 5, 7, 7, 6, 15}, "we may act 1", "act 1 may be done",
                "act 1 may be done by we", "we may act 1 and act 2", "we may act 1 within 365",
                "if not(case 0 or(case 1)),we must not act 1 unless((case 2))"));
        Bounds.bound(13, "6 its COST", () -> looks(6, new int[] {9, 18, 36}, "we may act 1", "we may act 1 unless case 1 within 2",
                "they must not act 5 unless not(case1 or case2)and case 3"));
        Bounds.bound(13, "7 how many not are in its COND (in if and unless; 0; 24)", () -> looks(7, new int[] {0, 0, 1, 2, 24},
                "we may act 1", "we must not act 1", "if not case 1,we must not act 1", "if not case 1,we may act 1 unless not case 2",
                "if " + "not ".repeat(12) + "case 1,we may act 1 unless " + "not ".repeat(12) + "case 1"));
        Bounds.bound(13, "8 1 if it has an unless, else 0", () -> looks(8, new int[] {0, 0, 1}, "we may act 1", "if not case 1,we may act 1",
                "we may act 1 unless case 1"));
        Bounds.bound(13, "Of a SENTENCE of the NEW LETTER", CostBounds::lookOfTheNewOne);
        Bounds.bound(13, "NoSuchElementException: another what", CostBounds::anotherWhat);
        Bounds.bound(13, "IndexOutOfBoundsException: no such SENTENCE, told ahead of another what", CostBounds::lookOfNoSentence);
        Bounds.bound(13, "IllegalStateException: there is no LETTER, told ahead of both", CostBounds::lookWithoutLetter);
    }

    private static void duePlainest(String text, int price, String want) {
        Desk desk = Desk.reading(text);
        Desk.due("plainest() of " + text, desk.words.plainest(), price);
        Desk.due("cost(false) of " + text, desk.words.cost(false), price);
        Desk.due("plainest of " + text, desk.written(), want);
        Desk.due("same() of " + text, desk.words.same(), true);
    }

    private static void nothingToDo() {
        duePlainest("we may act 1", 9, "we may act 1");
        duePlainest("if not(case 0 and case 1),they must not act 1 within 3", 14 + 2 + 8 + 5, "if not (case 0 and case 1), they must not act 1 within 3");
        duePlainest("act 1 may be done", 13, "act 1 may be done");
    }

    private static void turnIsPlainer() {
        duePlainest("act 1 may be done by we", 9, "we may act 1");
        duePlainest("act 1 and act 2 and act 3 must not be done by they within 365", 13 + 6 + 5,
                "they must not act 1 and act 2 and act 3 within 365");
        duePlainest("act 1 may be done", 13, "act 1 may be done");
    }

    private static void easeUpToNine() {
        duePlainest("we may act 1 unless case 1", 15, "if not case 1, we may act 1");
        duePlainest("we must not act 1 unless case 1", 16, "if not case 1, we must not act 1");
        duePlainest("we may act 1 unless case 1 within 3", 17, "if not case 1, we may act 1 within 3");
        duePlainest("we must not act 1 unless case 1 within 3", 19, "we must not act 1 unless case 1 within 3");
        duePlainest("we may act 1 and act 2 unless case 1", 19, "we may act 1 and act 2 unless case 1");
        duePlainest("if case 0,we may act 1 unless case 1", 19, "if case 0, we may act 1 unless case 1");
        duePlainest("we may act 1 and act 2 unless case 1 within 3", 12 + 4 + 4 + 5, "we may act 1 and act 2 unless case 1 within 3");
    }

    private static void notNotIsPlainer() {
        duePlainest("if not not case 0,we may act 1", 12, "if case 0, we may act 1");
        duePlainest("if case 0 or case 1 or not not case 2,we must act 1", 13 + 6 + 5, "if case 0 or case 1 or case 2, we must act 1");
        duePlainest("we may act 1 unless not case 0", 12, "if case 0, we may act 1");
        duePlainest("we may act 1 and act 2 and act 3 unless not case 0 within 3", 15 + 10 + 5, "if case 0, we may act 1 and act 2 and act 3 within 3");
        duePlainest("if case 0,act 1 must be done unless not not case 1", 12 + 3 + 2 + 4 + 5, "if case 0 and not case 1, act 1 must be done");
    }

    /** With its TURN nine words are left, so that EASE is plainer; without it twelve would be. */
    private static void turnThenEase() {
        duePlainest("act 1 may be done by we unless case 1 within 3", 17, "if not case 1, we may act 1 within 3");
        duePlainest("act 1 may be done unless case 1 within 3", 10 + 3 + 4 + 5, "act 1 may be done unless case 1 within 3");
        duePlainest("act 1 must not be done by we unless case 1 within 3", 19, "we must not act 1 unless case 1 within 3");
    }

    private static void partIsDearer() {
        duePlainest("we may act 1 and act 2", 12, "we may act 1 and act 2");
        duePlainest("we may act 1 and act 2 and act 3", 15, "we may act 1 and act 2 and act 3");
        duePlainest("if case 0 or case 1,we may act 1 and act 2", 13 + 6 + 5, "if case 0 or case 1, we may act 1 and act 2");
        duePlainest("if case 0 or case 1,we must not act 1 and act 2", 14 + 8 + 5, "if case 0 or case 1, we must not act 1 and act 2");
        duePlainest("if case 0 or case 1,we may act 1 and act 2 and act 3", 16 + 12 + 5, "if case 0 or case 1, we may act 1 and act 2 and act 3");
        duePlainest("act 1 and act 2 and act 3 may be done by we unless not case 1", 13 + 6 + 5, "if case 1, we may act 1 and act 2 and act 3");
        String row = "if case 0" + " and case 1".repeat(10) + ", ";
        duePlainest(row + "act 1 and act 2 and act 3 must not be done", 45 + 3 + 70 + 5, row + "act 1 and act 2 and act 3 must not be done");
    }

    private static void sentenceBySentence() {
        duePlainest("act 1 may be done by we;act 1 may be done;we may act 1 unless case 1;we must not act 1 unless case 1 within 3;"
                        + "if not not case 0,we may act 1;we may act 2;act 2 may be done by we unless not case 1;we may act 3 and act 4",
                9 + 13 + 15 + 19 + 12 + 9 + 12 + 12,
                "we may act 1; act 1 may be done; if not case 1, we may act 1; we must not act 1 unless case 1 within 3; "
                        + "if case 0, we may act 1; we may act 2; if case 1, we may act 2; we may act 3 and act 4");
    }

    private static void ofTheOldOne() {
        Desk desk = Desk.reading("we may act 1 and act 2;act 3 may be done by we unless case 1 within 4");
        desk.words.part(0);
        desk.words.ease(2);
        Desk.due("plainest() behind turns", desk.words.plainest(), 12 + 17);
        Desk.due("count(1)", desk.words.count(1), 2);
        Desk.due("written", desk.written(), "we may act 1 and act 2; if not case 1, we may act 3 within 4");
        Desk.due("plainest() again", desk.words.plainest(), 12 + 17);
        Desk.due("written", desk.written(), "we may act 1 and act 2; if not case 1, we may act 3 within 4");
    }

    private static void oldStays() {
        Desk desk = Desk.reading("act 1 may be done by we");
        desk.tape("abc");
        Desk.due("plainest()", desk.words.plainest(), 9);
        Desk.due("cost(true)", desk.words.cost(true), 15);
        Desk.due("cost(false)", desk.words.cost(false), 9);
        Desk.due("the tape", desk.taped(), "abc");
        desk.words.again();
        Desk.due("written again", desk.written(), "act 1 may be done by we");
    }

    private static void plainestWithoutLetter() {
        Desk desk = new Desk();
        Desk.dueOf("plainest()", desk.words::plainest, "IllegalStateException");
        desk.refuse("we may act 1;");
        Desk.dueOf("plainest() behind a wrong letter", desk.words::plainest, "IllegalStateException");
        Desk.due("count(1)", desk.words.count(1), 0);
    }

    private static void dueCost(String text, int want) {
        Desk desk = Desk.reading(text);
        Desk.due("cost(true) of " + text, desk.words.cost(true), want);
        Desk.due("cost(false) of " + text, desk.words.cost(false), want);
    }

    private static void wordsAndFive() {
        dueCost("we may act 1", 4 + 5);
        dueCost("we may act 1 within 365", 6 + 5);
        dueCost("if case 0,we may act 1", 7 + 5);
        dueCost("if((((case 0)))),we may act 1", 7 + 5);
        dueCost("if(case 0)or((case 1)),we may act 1", 10 + 5);
    }

    private static void passive() {
        dueCost("act 1 may be done", 5 + 3 + 5);
        dueCost("act 1 may be done by we", 7 + 3 + 5);
    }

    private static void nots() {
        dueCost("we must not act 1", 5 + 5);
        dueCost("if not case 0,we may act 1", 8 + 2 + 5);
        dueCost("if not not case 0,we may act 1", 9 + 4 + 5);
        dueCost("if not(case 0),we must not act 1", 9 + 2 + 5);
        dueCost("we may act 1 unless not case 0", 8 + 2 + 4 + 5);
        dueCost("if not not not not case 0,we may act 1", 11 + 8 + 2 + 5);
    }

    private static void unless() {
        dueCost("we may act 1 unless case 0", 7 + 4 + 5);
        dueCost("act 1 may be done unless case 0", 8 + 3 + 4 + 5);
    }

    private static void aboveTen() {
        dueCost("we must act 1 and act 2 within 3", 9 + 5);
        dueCost("we must not act 1 and act 2 within 3", 10 + 5);
        dueCost("we must not act 1 and act 2 and act 3", 11 + 2 + 5);
        dueCost("we must act 1 and act 2 and act 3 within 4", 12 + 4 + 5);
        dueCost("we must not act 1 and act 2 and act 3 within 4", 13 + 6 + 5);
        dueCost("if case0" + "or case0".repeat(46) + ",we may act 1", 145 + 2 * 135 + 5);
    }

    private static void ofAll() {
        dueCost("we may act 1", 9);
        dueCost("act 1 may be done;we may act 1", 13 + 9);
        String three = "we may act 1 and act 2 and act 3";
        Desk desk = Desk.reading((three + ";").repeat(7) + three);
        Desk.due("cost(true) of eight", desk.words.cost(true), 8 * 15);
        for (int i = 7; i >= 0; i--) {
            desk.words.part(i);
        }
        Desk.due("cost(false) of 24", desk.words.cost(false), 24 * 9);
        Desk.due("cost(true)", desk.words.cost(true), 8 * 15);
    }

    private static void oldOrNew() {
        Desk desk = Desk.reading("act 1 may be done by we");
        desk.words.turn(0);
        Desk.due("cost(true)", desk.words.cost(true), 15);
        Desk.due("cost(false)", desk.words.cost(false), 9);
        desk.words.again();
        Desk.due("cost(false)", desk.words.cost(false), 15);
    }

    private static void costWithoutLetter() {
        Desk desk = new Desk();
        Desk.dueOf("cost(true)", () -> desk.words.cost(true), "IllegalStateException");
        Desk.dueOf("cost(false)", () -> desk.words.cost(false), "IllegalStateException");
        desk.refuse("");
        Desk.dueOf("cost(true)", () -> desk.words.cost(true), "IllegalStateException");
    }

    private static void looks(int what, int[] want, String... texts) {
        for (int i = 0; i < texts.length; i++) {
            Desk desk = Desk.reading("you must act 0;" + texts[i]);
            Desk.due("look(1, " + what + ") of " + texts[i], desk.words.look(1, what), want[i]);
        }
        Desk.due("as many texts", texts.length, want.length);
    }

    private static void lookOfTheNewOne() {
        Desk desk = Desk.reading("act 1 and act 2 may be done by we unless case 1;you may act 3");
        desk.words.turn(0);
        Desk.due("look(0, 4) of the turned one", desk.words.look(0, 4), 0);
        desk.words.ease(0);
        Desk.due("look(0, 7) of the eased one", desk.words.look(0, 7), 1);
        Desk.due("look(0, 8) of the eased one", desk.words.look(0, 8), 0);
        desk.words.part(0);
        Desk.due("look(1, 0) of the parted one", desk.words.look(1, 0), 1);
        Desk.due("look(2, 1) of the last", desk.words.look(2, 1), 0);
        desk.words.again();
        Desk.due("look(0, 0) again", desk.words.look(0, 0), 2);
        Desk.due("look(0, 4) again", desk.words.look(0, 4), 1);
    }

    private static void anotherWhat() {
        Desk desk = Desk.reading("we may act 1");
        String before = desk.state();
        for (int what : new int[] {-1, 9, 10, 64, LEAST, MOST}) {
            Desk.dueOf("look(0, " + what + ")", () -> desk.words.look(0, what), "NoSuchElementException");
        }
        Desk.due("the state behind it", desk.state(), before);
    }

    private static void lookOfNoSentence() {
        Desk desk = Desk.reading("we may act 1;we may act 2");
        for (int i : new int[] {-1, 2, 8, 24, LEAST, MOST}) {
            Desk.dueOf("look(" + i + ", 0)", () -> desk.words.look(i, 0), "IndexOutOfBoundsException");
            Desk.dueOf("look(" + i + ", 9)", () -> desk.words.look(i, 9), "IndexOutOfBoundsException");
            Desk.dueOf("look(" + i + ", -1)", () -> desk.words.look(i, -1), "IndexOutOfBoundsException");
        }
        desk.words.melt(0);
        Desk.dueOf("look(1, 0) of the melted one", () -> desk.words.look(1, 0), "IndexOutOfBoundsException");
        Desk.dueOf("look(0, 0) of the melted one", () -> desk.words.look(0, 0), 2);
    }

    private static void lookWithoutLetter() {
        Desk desk = new Desk();
        Desk.dueOf("look(0, 0)", () -> desk.words.look(0, 0), "IllegalStateException");
        Desk.dueOf("look(-1, 0)", () -> desk.words.look(-1, 0), "IllegalStateException");
        Desk.dueOf("look(0, 9)", () -> desk.words.look(0, 9), "IllegalStateException");
        Desk.dueOf("look(24, -1)", () -> desk.words.look(24, -1), "IllegalStateException");
    }
}
