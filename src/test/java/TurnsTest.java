/** Promises 6 to 9 and 11, and the turns that 19 counts. */
public final class TurnsTest {
    public static void main(String[] args) {
        parting();
        partingToTwentyFour();
        melting();
        notMelting();
        meltingOfAlikeWritten();
        turning();
        easing();
        again();
        wrongSentences();
        Desk.finish();
    }

    private static void parting() {
        Desk desk = Desk.reading("we may act 9;if case 1,act 3 and act 1 and act 2 must not be done by you unless case 2 within 5;they may act 0");
        Desk.due("part(0) of one act", desk.words.part(0), false);
        Desk.due("part(1)", desk.words.part(1), true);
        Desk.due("written", desk.written(), "we may act 9; "
                + "if case 1, act 3 must not be done by you unless case 2 within 5; "
                + "if case 1, act 1 must not be done by you unless case 2 within 5; "
                + "if case 1, act 2 must not be done by you unless case 2 within 5; they may act 0");
        Desk.due("count(0)", desk.words.count(0), 3);
        Desk.due("count(1)", desk.words.count(1), 5);
        Desk.due("part(1) again", desk.words.part(1), false);
        Desk.due("count(4)", desk.words.count(4), 1);
        dueAfterPart("we may act 5 and act 4", "we may act 5; we may act 4");
    }

    private static void dueAfterPart(String text, String want) {
        Desk desk = Desk.reading(text);
        Desk.due("part(0) of " + text, desk.words.part(0), true);
        Desk.due("parted " + text, desk.written(), want);
    }

    private static void partingToTwentyFour() {
        String three = "we may act 1 and act 2 and act 3";
        Desk desk = Desk.reading((three + ";").repeat(7) + three);
        for (int i = 7; i >= 0; i--) {
            Desk.due("part(" + i + ")", desk.words.part(i), true);
        }
        Desk.due("24 now", desk.words.count(1), 24);
        Desk.due("look(23, 0)", desk.words.look(23, 0), 1);
        Desk.dueOf("look(24, 0)", () -> desk.words.look(24, 0), "IndexOutOfBoundsException");
        Desk.due("part(23)", desk.words.part(23), false);
        Desk.due("same()", desk.words.same(), true);
        Desk.due("count(4)", desk.words.count(4), 8);
    }

    private static void melting() {
        Desk desk = Desk.reading("they must act 4;we may act 2;we may act 1;we may act 3");
        Desk.due("melt(0)", desk.words.melt(0), false);
        Desk.due("melt(2)", desk.words.melt(2), true);
        Desk.due("written", desk.written(), "they must act 4; we may act 2; we may act 1 and act 3");
        Desk.due("melt(1)", desk.words.melt(1), true);
        Desk.due("written", desk.written(), "they must act 4; we may act 2 and act 1 and act 3");
        Desk.due("melt(1) of the last", desk.words.melt(1), false);
        Desk.due("count(1)", desk.words.count(1), 2);
        Desk.due("count(4)", desk.words.count(4), 2);
        dueMelt("if case 1,act 1 must not be done by we unless case 2 within 3;if case 1,act 2 must not be done by we unless case 2 within 3",
                "if case 1, act 1 and act 2 must not be done by we unless case 2 within 3");
        dueMelt("act 1 may be done;act 2 and act 0 may be done", "act 1 and act 2 and act 0 may be done");
    }

    private static void dueMelt(String text, String want) {
        Desk desk = Desk.reading(text);
        Desk.due("melt(0) of " + text, desk.words.melt(0), true);
        Desk.due("melted " + text, desk.written(), want);
    }

    private static void notMelting() {
        dueNoMelt("we may act 1");
        dueNoMelt("we may act 1;we may act 1");
        dueNoMelt("we may act 1 and act 2;we may act 3 and act 1");
        dueNoMelt("we may act 1 and act 2;we may act 3 and act 4");
        dueNoMelt("we may act 1;you may act 2");
        dueNoMelt("we may act 1;we must act 2");
        dueNoMelt("we must not act 1;we must act 2");
        dueNoMelt("we may act 1;act 2 may be done by we");
        dueNoMelt("act 1 may be done;act 2 may be done by we");
        dueNoMelt("we may act 1;we may act 2 within 3");
        dueNoMelt("we may act 1 within 4;we may act 2 within 3");
        dueNoMelt("we may act 1;if case 1,we may act 2");
        dueNoMelt("if case 1,we may act 1;if case 2,we may act 2");
        dueNoMelt("if case 1,we may act 1;we may act 2 unless case 1");
        dueNoMelt("we may act 1 unless case 1;we may act 2");
        dueNoMelt("we may act 1 unless case 1;we may act 2 unless case 2");
        // What means the same but is written otherwise is not alike.
        dueNoMelt("if case 1 and case 2,we may act 1;if case 2 and case 1,we may act 2");
        dueNoMelt("if not not case 1,we may act 1;if case 1,we may act 2");
        dueNoMelt("if case 1 or case 2,we may act 1;if case 1 and case 2,we may act 2");
        dueNoMelt("if case 1 and(case 2 or case 3),we may act 1;if case 1 and case 2 or case 3,we may act 2");
    }

    private static void dueNoMelt(String text) {
        Desk desk = Desk.reading(text);
        int size = desk.words.count(1);
        String before = desk.written();
        Desk.due("melt(0) of " + text, desk.words.melt(0), false);
        Desk.due("count(1) of " + text, desk.words.count(1), size);
        Desk.due("count(4) of " + text, desk.words.count(4), 0);
        Desk.due("written of " + text, desk.written(), before);
    }

    private static void meltingOfAlikeWritten() {
        dueMelt("if(case 1),we may act 1;if case 001,we may act 2", "if case 1, we may act 1 and act 2");
        dueMelt("if case 1 and(case 2 and case 3),we may act 1;if(case 1 and case 2)and case 3,we may act 2",
                "if case 1 and case 2 and case 3, we may act 1 and act 2");
        dueMelt("we may act 1 unless case 0 or(case 1 or not(case 2));we may act 2 unless(case 0 or case 1)or(not case 2)",
                "we may act 1 and act 2 unless case 0 or case 1 or not case 2");
        dueMelt("if not(not case 1),we may act 1 within 07;if not not case 1,we may act 2 within 7",
                "if not not case 1, we may act 1 and act 2 within 7");
        dueMelt("if(case 0 and case 1)or case 2,we may act 1;if case 0 and case 1 or case 2,we may act 2",
                "if case 0 and case 1 or case 2, we may act 1 and act 2");
    }

    private static void turning() {
        Desk desk = Desk.reading("if case 1,act 1 and act 2 must not be done by they unless case 2 within 9;act 1 may be done;we may act 3");
        Desk.due("turn(0)", desk.words.turn(0), true);
        Desk.due("turn(0) again", desk.words.turn(0), false);
        Desk.due("turn(1) of nobody", desk.words.turn(1), false);
        Desk.due("turn(2) of an active one", desk.words.turn(2), false);
        Desk.due("written", desk.written(),
                "if case 1, they must not act 1 and act 2 unless case 2 within 9; act 1 may be done; we may act 3");
        Desk.due("count(4)", desk.words.count(4), 1);
    }

    private static void easing() {
        dueEase("we may act 1", "we may act 1", false);
        dueEase("if not case 1,we may act 1", "if not case 1, we may act 1", false);
        dueEase("if(case 1),we may act 1", "if case 1, we may act 1", false);
        dueEase("we may act 1 unless case 1", "if not case 1, we may act 1", true);
        dueEase("we may act 1 unless not case 1", "if case 1, we may act 1", true);
        dueEase("we may act 1 unless not not case 1 within 3", "if not case 1, we may act 1 within 3", true);
        dueEase("act 1 may be done unless case 1 or case 2", "if not (case 1 or case 2), act 1 may be done", true);
        dueEase("if case 0,we may act 1 unless case 1", "if case 0 and not case 1, we may act 1", true);
        dueEase("if case 0 and case 1,we may act 1 unless case 2 and case 3",
                "if case 0 and case 1 and not (case 2 and case 3), we may act 1", true);
        dueEase("if case 0 or case 1,we may act 1 unless case 2 or case 3",
                "if (case 0 or case 1) and not (case 2 or case 3), we may act 1", true);
        dueEase("if case 0,we may act 1 unless not(case 1 and case 2)", "if case 0 and case 1 and case 2, we may act 1", true);
        dueEase("if case 0,we may act 1 unless not(case 1 or case 2)", "if case 0 and (case 1 or case 2), we may act 1", true);
        dueEase("if not not case 1,we may act 1", "if case 1, we may act 1", true);
        dueEase("if not(not(not case 1)),we may act 1", "if not case 1, we may act 1", true);
        dueEase("if case 1 or not not(case 2 or not(not not(case 3 and case 4))),we may act 1",
                "if case 1 or case 2 or not (case 3 and case 4), we may act 1", true);
        dueEase("if not(not not case 1 and not not(case 2 and case 3)),we may act 1",
                "if not (case 1 and case 2 and case 3), we may act 1", true);
        dueEase("if not not case 0,we must act 1 unless not not(case 1 or not not case 2)",
                "if case 0 and not (case 1 or case 2), we must act 1", true);
        dueEase("if " + "not ".repeat(11) + "case 0,we may act 1 unless " + "not ".repeat(11) + "case 1",
                "if not case 0 and case 1, we may act 1", true);
        easingDeep();
    }

    /** Through an unless the ( come to stand deeper than can be read. */
    private static void easingDeep() {
        String deep = "case 1 and (case 2 or ".repeat(12) + "case 3" + ")".repeat(12);
        dueEase("we may act 1 unless " + deep, "if not (" + deep + "), we may act 1", true);
        Desk desk = Desk.reading("we may act 1 unless " + deep);
        desk.words.ease(0);
        String text = desk.written();
        int begin = text.lastIndexOf('(', text.lastIndexOf('(') - 1);
        Desk.dueOf("letter() of it", desk.words::letter, "IllegalArgumentException");
        Desk.due("fault() of it", desk.words.fault(), begin);
    }

    private static void dueEase(String text, String want, boolean changed) {
        Desk desk = Desk.reading(text);
        Desk.due("ease(0) of " + text, desk.words.ease(0), changed);
        Desk.due("eased " + text, desk.written(), want);
        Desk.due("ease(0) again of " + text, desk.words.ease(0), false);
        Desk.due("count(4) of " + text, desk.words.count(4), changed ? 1 : 0);
        Desk.due("same() of " + text, desk.words.same(), true);
        Desk.due("look(0, 8) of " + text, desk.words.look(0, 8), 0);
    }

    private static void again() {
        String text = "act 1 and act 2 must be done by we unless case 1; we may act 3";
        Desk desk = Desk.reading(text);
        desk.words.part(0);
        desk.words.turn(1);
        desk.words.ease(0);
        Desk.due("count(1) of parted", desk.words.count(1), 3);
        desk.words.again();
        Desk.due("count(1)", desk.words.count(1), 2);
        Desk.due("written", desk.written(), text);
        Desk.due("count(4) stays", desk.words.count(4), 3);
        desk.words.again();
        Desk.due("written", desk.written(), text);
        desk.words.plainest();
        Desk.due("count(4) is not of plainest", desk.words.count(4), 3);
        desk.words.again();
        Desk.due("written", desk.written(), text);
    }

    private static void wrongSentences() {
        Desk desk = Desk.reading("we may act 1;we may act 2 and act 3");
        for (int i : new int[] {-1, 2, 3, 24, Integer.MAX_VALUE, Integer.MIN_VALUE}) {
            String none = "IndexOutOfBoundsException";
            Desk.dueOf("part(" + i + ")", () -> desk.words.part(i), none);
            Desk.dueOf("melt(" + i + ")", () -> desk.words.melt(i), none);
            Desk.dueOf("turn(" + i + ")", () -> desk.words.turn(i), none);
            Desk.dueOf("ease(" + i + ")", () -> desk.words.ease(i), none);
            Desk.dueOf("look(" + i + ", 0)", () -> desk.words.look(i, 0), none);
            Desk.dueOf("look(" + i + ", 9)", () -> desk.words.look(i, 9), none);
        }
        Desk.dueOf("look(1, 9)", () -> desk.words.look(1, 9), "NoSuchElementException");
        Desk.dueOf("look(1, -1)", () -> desk.words.look(1, -1), "NoSuchElementException");
        desk.words.part(1);
        Desk.dueOf("look(2, 0)", () -> desk.words.look(2, 0), 1);
        desk.words.melt(0);
        Desk.dueOf("look(2, 0)", () -> desk.words.look(2, 0), "IndexOutOfBoundsException");
    }
}
