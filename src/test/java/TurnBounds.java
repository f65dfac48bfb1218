import java.util.function.IntFunction;

/** The boundary cases of the TURNS: promises 1, 6 to 9 and 11. */
final class TurnBounds {
    private static final int[] NO_SENTENCE = {-1, 2, 3, 23, 24, 400, Integer.MAX_VALUE, Integer.MIN_VALUE};

    private TurnBounds() {
    }

    static void all() {
        Bounds.bound(1, "No LETTER: IllegalStateException, told ahead of all other exceptions", TurnBounds::noLetter);
        Bounds.bound(6, "IllegalStateException: there is no LETTER", () -> needsLetter(desk -> i -> desk.words.part(i)));
        Bounds.bound(7, "IllegalStateException: there is no LETTER", () -> needsLetter(desk -> i -> desk.words.melt(i)));
        Bounds.bound(8, "IllegalStateException: there is no LETTER", () -> needsLetter(desk -> i -> desk.words.turn(i)));
        Bounds.bound(9, "IllegalStateException: there is no LETTER", () -> needsLetter(desk -> i -> desk.words.ease(i)));
        Bounds.bound(6, "IndexOutOfBoundsException: no such SENTENCE", () -> needsSentence(desk -> i -> desk.words.part(i)));
        Bounds.bound(7, "IndexOutOfBoundsException: no such SENTENCE", () -> needsSentence(desk -> i -> desk.words.melt(i)));
        Bounds.bound(8, "IndexOutOfBoundsException: no such SENTENCE", () -> needsSentence(desk -> i -> desk.words.turn(i)));
        Bounds.bound(9, "IndexOutOfBoundsException: no such SENTENCE", () -> needsSentence(desk -> i -> desk.words.ease(i)));
        Bounds.bound(6, "of the NEW LETTER: its SENTENCES, not the OLD one's, can be named", TurnBounds::ofTheNewOne);
        Bounds.bound(6, "of one with n ACTS, 2 or more, come n, in its place, in order", TurnBounds::partInPlace);
        Bounds.bound(6, "each with one of them, and all else alike", TurnBounds::partAllElse);
        Bounds.bound(6, "false, and nothing happens, if it has one ACT", TurnBounds::partOfOneAct);
        Bounds.bound(6, "(numbered from 0 on; at most 24): 24 can be", TurnBounds::twentyFour);
        Bounds.bound(7, "of one and the next one: false of the last, and nothing happens", TurnBounds::meltOfTheLast);
        Bounds.bound(7, "alike in all but ACTS: false, and nothing happens, of others", TurnBounds::meltOfOthers);
        Bounds.bound(7, "if and unless alike as they are written", TurnBounds::meltAsWritten);
        Bounds.bound(7, "alike as they are written: 12 deep ones too", TurnBounds::meltOfTheDeepest);
        Bounds.bound(7, "with at most 3 ACTS together", TurnBounds::meltOfThreeActs);
        Bounds.bound(7, "none told twice", TurnBounds::meltOfActsToldTwice);
        Bounds.bound(7, "one with the ACTS of both, in its place", TurnBounds::meltInPlace);
        Bounds.bound(8, "a PASSIVE one that tells who becomes ACTIVE", TurnBounds::turnOfPassive);
        Bounds.bound(8, "false, and nothing happens, of an ACTIVE one", TurnBounds::turnOfActive);
        Bounds.bound(8, "false, and nothing happens, of one told of nobody", TurnBounds::turnOfNobody);
        Bounds.bound(9, "if there is no if, not ( COND ) of it becomes the if", TurnBounds::easeWithoutIf);
        Bounds.bound(9, "else the if and that, as one and", TurnBounds::easeWithIf);
        Bounds.bound(9, "then, through whatever, not not ITEM becomes ITEM", TurnBounds::notNot);
        Bounds.bound(9, "not not ITEM becomes ITEM without an unless too", TurnBounds::notNotWithoutUnless);
        Bounds.bound(9, "whether it changed something: false with neither, and nothing happens", TurnBounds::easeOfNothing);
        Bounds.bound(9, "of 12 deep ones; what comes of it may be too deep to be read", TurnBounds::easeOfTheDeepest);
        Bounds.bound(11, "The NEW LETTER is as the OLD one again", TurnBounds::again);
        Bounds.bound(11, "again of one that is as it was", TurnBounds::againOfTheSame);
        Bounds.bound(11, "IllegalStateException: there is no LETTER", TurnBounds::againWithoutLetter);
    }

    private interface Call {
        IntFunction<Object> of(Desk desk);
    }

    private static void noLetter() {
        Desk desk = new Desk();
        String none = "IllegalStateException";
        for (int i : new int[] {0, -1, 24}) {
            Desk.dueOf("part(" + i + ")", () -> desk.words.part(i), none);
            Desk.dueOf("melt(" + i + ")", () -> desk.words.melt(i), none);
            Desk.dueOf("turn(" + i + ")", () -> desk.words.turn(i), none);
            Desk.dueOf("ease(" + i + ")", () -> desk.words.ease(i), none);
            Desk.dueOf("look(" + i + ", 0)", () -> desk.words.look(i, 0), none);
            Desk.dueOf("look(" + i + ", 9)", () -> desk.words.look(i, 9), none);
            Desk.dueOf("cost(" + (i == 0) + ")", () -> desk.words.cost(i == 0), none);
            Desk.dueOf("ask(" + (i == 0) + ", ..)", () -> desk.words.ask(i == 0, i, i, i), none);
            Desk.dueOf("days(" + i + ", ..)", () -> desk.words.days(i, i, i), none);
        }
        Desk.dueOf("plainest()", desk.words::plainest, none);
        Desk.dueOf("again()", () -> againOf(desk), none);
        Desk.dueOf("same()", desk.words::same, none);
        Desk.dueOf("write()", desk.words::write, none);
        Desk.due("the state", desk.state(), "|0|0|0|0|0|-1|" + none + "|" + none);
    }

    private static Object againOf(Desk desk) {
        desk.words.again();
        return "nothing";
    }

    private static void needsLetter(Call call) {
        Desk desk = new Desk();
        desk.feed("abc");
        for (int i : new int[] {0, -1, 24}) {
            Desk.dueOf("of " + i + " in a new object", () -> call.of(desk).apply(i), "IllegalStateException");
        }
        Desk.due("the tape stays", desk.taped(), "abc");
        desk.refuse("we may act 1;");
        Desk.dueOf("behind a wrong letter", () -> call.of(desk).apply(0), "IllegalStateException");
        Desk.due("count(4)", desk.words.count(4), 0);
    }

    private static void needsSentence(Call call) {
        Desk desk = Desk.reading("act 1 and act 2 may be done by we unless case 1;we may act 3");
        desk.tape("abc");
        String before = desk.state();
        for (int i : NO_SENTENCE) {
            Desk.dueOf("of " + i, () -> call.of(desk).apply(i), "IndexOutOfBoundsException");
        }
        Desk.due("the state behind it", desk.state(), before);
        for (int i = 0; i < 2; i++) {
            int there = i;
            String answer = Desk.answer(() -> call.of(desk).apply(there));
            Desk.due("of " + i + " is an answer", answer.equals("true") || answer.equals("false"), true);
        }
    }

    private static void ofTheNewOne() {
        Desk desk = Desk.reading("act 1 and act 2 may be done by we;act 3 may be done by we");
        desk.words.part(0);
        Desk.dueOf("turn(2) of the three", () -> desk.words.turn(2), true);
        Desk.dueOf("turn(3) of the three", () -> desk.words.turn(3), "IndexOutOfBoundsException");
        desk.words.again();
        Desk.dueOf("turn(2) of the two", () -> desk.words.turn(2), "IndexOutOfBoundsException");
        desk.words.melt(0);
        Desk.dueOf("turn(1) of the one", () -> desk.words.turn(1), "IndexOutOfBoundsException");
        Desk.dueOf("part(1) of the one", () -> desk.words.part(1), "IndexOutOfBoundsException");
        Desk.dueOf("melt(1) of the one", () -> desk.words.melt(1), "IndexOutOfBoundsException");
        Desk.dueOf("ease(1) of the one", () -> desk.words.ease(1), "IndexOutOfBoundsException");
    }

    private static void partInPlace() {
        String text = "you may act 3 and act 1;we may act 9 and act 0 and act 5;they may act 2 and act 4";
        duePart(text, 0, "you may act 3; you may act 1; we may act 9 and act 0 and act 5; they may act 2 and act 4");
        duePart(text, 1, "you may act 3 and act 1; we may act 9; we may act 0; we may act 5; they may act 2 and act 4");
        duePart(text, 2, "you may act 3 and act 1; we may act 9 and act 0 and act 5; they may act 2; they may act 4");
    }

    private static void duePart(String text, int i, String want) {
        Desk desk = Desk.reading(text);
        Desk.due("part(" + i + ") of " + text, desk.words.part(i), true);
        Desk.due("parted " + text, desk.written(), want);
        Desk.due("count(4)", desk.words.count(4), 1);
    }

    private static void partAllElse() {
        duePart("if case 1,act 2 and act 3 must not be done by you unless not not case 4 within 5", 0,
                "if case 1, act 2 must not be done by you unless not not case 4 within 5; "
                        + "if case 1, act 3 must not be done by you unless not not case 4 within 5");
        duePart("act 2 and act 3 may be done", 0, "act 2 may be done; act 3 may be done");
    }

    private static void partOfOneAct() {
        Desk desk = Desk.reading("if case 1,act 1 may be done by we unless case 2 within 3;we may act 2 and act 3");
        String before = desk.state();
        Desk.due("part(0)", desk.words.part(0), false);
        Desk.due("the state behind it", desk.state(), before);
        desk.words.part(1);
        Desk.due("part(1) of what was parted", desk.words.part(1), false);
        Desk.due("count(4)", desk.words.count(4), 1);
    }

    private static void twentyFour() {
        String three = "we may act 1 and act 2 and act 3";
        Desk desk = Desk.reading((three + ";").repeat(7) + three);
        for (int i = 0; i < 8; i++) {
            Desk.due("part(" + 3 * i + ") to " + (10 + 2 * i), desk.words.part(3 * i), true);
            Desk.due("count(1)", desk.words.count(1), 10 + 2 * i);
        }
        Desk.due("act of the 24th", desk.words.look(23, 0), 1);
        Desk.due("turn(23)", desk.words.turn(23), false);
        Desk.dueOf("turn(24)", () -> desk.words.turn(24), "IndexOutOfBoundsException");
        Desk.due("part(23)", desk.words.part(23), false);
        Desk.due("melt(23)", desk.words.melt(23), false);
        Desk.due("melt(22)", desk.words.melt(22), true);
        Desk.due("cost(false)", desk.words.cost(false), 22 * 9 + 12);
        Desk.due("same()", desk.words.same(), true);
        Desk.due("count(4)", desk.words.count(4), 9);
    }

    private static void meltOfTheLast() {
        Desk desk = Desk.reading("we may act 1;we may act 2");
        String before = desk.state();
        Desk.due("melt(1) of two", desk.words.melt(1), false);
        Desk.due("the state behind it", desk.state(), before);
        Desk.due("melt(0) of two", desk.words.melt(0), true);
        Desk.due("melt(0) of one", desk.words.melt(0), false);
        Desk.due("count(4)", desk.words.count(4), 1);
    }

    private static void dueNoMelt(String one, String next) {
        Desk desk = Desk.reading(one + ";" + next);
        String before = desk.state();
        Desk.due("melt(0) of " + one + "; " + next, desk.words.melt(0), false);
        Desk.due("the state behind it", desk.state(), before);
        Desk other = Desk.reading(next + ";" + one);
        Desk.due("melt(0) of " + next + "; " + one, other.words.melt(0), false);
    }

    private static void meltOfOthers() {
        dueNoMelt("we may act 1", "you may act 2");
        dueNoMelt("we may act 1", "they may act 2");
        dueNoMelt("we may act 1", "we must act 2");
        dueNoMelt("we must act 1", "we must not act 2");
        dueNoMelt("we may act 1", "we must not act 2");
        dueNoMelt("we may act 1", "act 2 may be done by we");
        dueNoMelt("act 1 may be done", "act 2 may be done by they");
        dueNoMelt("we may act 1", "we may act 2 within 1");
        dueNoMelt("we may act 1 within 1", "we may act 2 within 2");
        dueNoMelt("we may act 1", "if case 1,we may act 2");
        dueNoMelt("if case 1,we may act 1", "if case 2,we may act 2");
        dueNoMelt("we may act 1", "we may act 2 unless case 1");
        dueNoMelt("we may act 1 unless case 1", "we may act 2 unless case 2");
        dueNoMelt("if case 1,we may act 1", "we may act 2 unless case 1");
        dueNoMelt("if not case 1,we may act 1", "we may act 2 unless case 1");
    }

    private static void meltAsWritten() {
        dueMelt("if((case 0)),we may act 1", "if case 00,we may act 2", "if case 0, we may act 1 and act 2");
        dueMelt("if case 0 and(case 1 and case 2),we may act 1", "if(case 0 and case 1)and case 2,we may act 2",
                "if case 0 and case 1 and case 2, we may act 1 and act 2");
        dueMelt("we may act 1 unless(case 0 or case 1)or not(case 2)", "we may act 2 unless case 0 or(case 1 or not case 2)",
                "we may act 1 and act 2 unless case 0 or case 1 or not case 2");
        dueMelt("if not(not(case 0)),we may act 1", "if not not case 0,we may act 2", "if not not case 0, we may act 1 and act 2");
        // What asks for the same but is written otherwise is not alike.
        dueNoMelt("if case 0 and case 1,we may act 1", "if case 1 and case 0,we may act 2");
        dueNoMelt("if not not case 0,we may act 1", "if case 0,we may act 2");
        dueNoMelt("if case 0 or case 0,we may act 1", "if case 0,we may act 2");
        dueNoMelt("if case 0 and case 1 or case 2,we may act 1", "if case 0 and(case 1 or case 2),we may act 2");
        dueNoMelt("if not(case 0 or case 1),we may act 1", "if not case 0 or case 1,we may act 2");
        dueNoMelt("we may act 1 unless case 0 and case 1", "we may act 2 unless case 0 or case 1");
        dueNoMelt("we may act 1 unless case 0", "we may act 2 unless case 0 or case 1");
        dueNoMelt("we may act 1 unless case 0 or case 1", "we may act 2 unless case 0 or case 1 or case 2");
        dueNoMelt("if case 0 and case 1,we may act 1", "if case 2 and case 1,we may act 2");
        dueNoMelt("if case 0 and case 1,we may act 1", "if case 0 and case 2,we may act 2");
        dueNoMelt("if not case 0,we may act 1", "if not case 1,we may act 2");
        dueNoMelt("if not case 0,we may act 1", "if case 0,we may act 2");
    }

    private static void dueMelt(String one, String next, String want) {
        Desk desk = Desk.reading(one + ";" + next);
        Desk.due("melt(0) of " + one + "; " + next, desk.words.melt(0), true);
        Desk.due("melted " + one + "; " + next, desk.written(), want);
        Desk.due("count(4)", desk.words.count(4), 1);
    }

    private static void meltOfTheDeepest() {
        String deep = "case1and(case2or ".repeat(12) + "case3" + ")".repeat(12);
        Desk desk = Desk.reading("we may act 1 and act 2 unless " + deep);
        Desk.due("part(0)", desk.words.part(0), true);
        Desk.due("melt(0)", desk.words.melt(0), true);
        Desk.due("part(0)", desk.words.part(0), true);
        Desk.due("ease(1)", desk.words.ease(1), true);
        Desk.due("melt(0) of an eased one", desk.words.melt(0), false);
        Desk.due("ease(0)", desk.words.ease(0), true);
        Desk.due("melt(0) of two eased ones", desk.words.melt(0), true);
        Desk.due("count(1)", desk.words.count(1), 1);
        // Two that differ at their innermost alone.
        String half = "case1and(case2or ".repeat(9);
        dueNoMelt("if " + half + "case3" + ")".repeat(9) + ",we may act 1", "if " + half + "case4" + ")".repeat(9) + ",we may act 2");
    }

    private static void meltOfThreeActs() {
        dueMelt("we may act 5", "we may act 4", "we may act 5 and act 4");
        dueMelt("we may act 5", "we may act 4 and act 3", "we may act 5 and act 4 and act 3");
        dueMelt("we may act 5 and act 4", "we may act 3", "we may act 5 and act 4 and act 3");
        dueNoMelt("we may act 5 and act 4", "we may act 3 and act 2");
        dueNoMelt("we may act 5 and act 4 and act 3", "we may act 2");
        dueNoMelt("we may act 5 and act 4 and act 3", "we may act 2 and act 1 and act 0");
    }

    private static void meltOfActsToldTwice() {
        dueNoMelt("we may act 1", "we may act 1");
        dueNoMelt("we may act 1", "we may act 2 and act 1");
        dueNoMelt("we may act 1", "we may act 1 and act 2");
        dueNoMelt("we may act 0", "we may act 0");
        // Two would be told twice, so that but two would be left: they are not melted either.
        dueNoMelt("we may act 1 and act 2", "we may act 2 and act 1");
    }

    private static void meltInPlace() {
        Desk desk = Desk.reading("you may act 7;we may act 1;we may act 2;you may act 8");
        Desk.due("melt(1)", desk.words.melt(1), true);
        Desk.due("written", desk.written(), "you may act 7; we may act 1 and act 2; you may act 8");
        dueMelt("if case 1,act 1 must not be done by we unless case 2 within 3", "if case 1,act 2 must not be done by we unless case 2 within 3",
                "if case 1, act 1 and act 2 must not be done by we unless case 2 within 3");
    }

    private static void turnOfPassive() {
        String[] who = {"you", "we", "they"};
        for (String one : who) {
            Desk desk = Desk.reading("if case 1,act 3 and act 2 must not be done by " + one + " unless case 4 within 5;we may act 1");
            Desk.due("turn(0) of " + one, desk.words.turn(0), true);
            Desk.due("turned", desk.written(), "if case 1, " + one + " must not act 3 and act 2 unless case 4 within 5; we may act 1");
            Desk.due("count(4)", desk.words.count(4), 1);
        }
    }

    private static void turnOfActive() {
        Desk desk = Desk.reading("we may act 1;act 2 may be done by we");
        String before = desk.state();
        Desk.due("turn(0)", desk.words.turn(0), false);
        Desk.due("the state behind it", desk.state(), before);
        desk.words.turn(1);
        Desk.due("turn(1) of what was turned", desk.words.turn(1), false);
        Desk.due("count(4)", desk.words.count(4), 1);
    }

    private static void turnOfNobody() {
        Desk desk = Desk.reading("act 1 and act 2 must be done;act 3 may be done unless case 1");
        String before = desk.state();
        Desk.due("turn(0)", desk.words.turn(0), false);
        Desk.due("turn(1)", desk.words.turn(1), false);
        Desk.due("the state behind it", desk.state(), before);
    }

    private static void dueEase(String text, String want) {
        Desk desk = Desk.reading(text);
        Desk.due("ease(0) of " + text, desk.words.ease(0), true);
        Desk.due("eased " + text, desk.written(), want);
        Desk.due("ease(0) again", desk.words.ease(0), false);
        Desk.due("look(0, 8)", desk.words.look(0, 8), 0);
        Desk.due("count(4)", desk.words.count(4), 1);
        Desk.due("same()", desk.words.same(), true);
    }

    private static void easeWithoutIf() {
        dueEase("we may act 1 unless case 0", "if not case 0, we may act 1");
        dueEase("act 1 must be done unless case 0 and case 1 within 3", "if not (case 0 and case 1), act 1 must be done within 3");
        dueEase("we may act 1 unless case 0 or case 1", "if not (case 0 or case 1), we may act 1");
        dueEase("we may act 1 unless not case 0", "if case 0, we may act 1");
        dueEase("we may act 1 unless not case 0 or case 1", "if not (not case 0 or case 1), we may act 1");
    }

    private static void easeWithIf() {
        dueEase("if case 0,we may act 1 unless case 1", "if case 0 and not case 1, we may act 1");
        dueEase("if case 0 and case 1,we may act 1 unless case 2", "if case 0 and case 1 and not case 2, we may act 1");
        dueEase("if case 0 or case 1,we may act 1 unless case 2", "if (case 0 or case 1) and not case 2, we may act 1");
        dueEase("if not case 0,we may act 1 unless not(case 1 and case 2)", "if not case 0 and case 1 and case 2, we may act 1");
        dueEase("if case 0,we may act 1 unless not(case 1 or case 2)", "if case 0 and (case 1 or case 2), we may act 1");
        dueEase("if case 0 or case 1 and case 2,we may act 1 unless case 3 or case 4",
                "if (case 0 or case 1 and case 2) and not (case 3 or case 4), we may act 1");
    }

    private static void notNot() {
        dueEase("we may act 1 unless not not case 0", "if not case 0, we may act 1");
        dueEase("we may act 1 unless not not not case 0", "if case 0, we may act 1");
        dueEase("if not not case 0,we may act 1 unless case 1", "if case 0 and not case 1, we may act 1");
        dueEase("if case 0,we may act 1 unless not(not(case 1 and not not case 2))",
                "if case 0 and not (case 1 and case 2), we may act 1");
        dueEase("if " + "not ".repeat(12) + "case 0,we may act 1 unless " + "not ".repeat(12) + "case 1",
                "if case 0 and not case 1, we may act 1");
        dueEase("if " + "not ".repeat(11) + "case 0,we may act 1 unless " + "not ".repeat(11) + "case 1",
                "if not case 0 and case 1, we may act 1");
    }

    private static void notNotWithoutUnless() {
        dueEase("if not not case 0,we may act 1", "if case 0, we may act 1");
        dueEase("if not(not case 0),we may act 1", "if case 0, we may act 1");
        dueEase("if not not not case 0,we may act 1", "if not case 0, we may act 1");
        dueEase("if case 0 and not not(case 1 and case 2)and case 3,we may act 1", "if case 0 and case 1 and case 2 and case 3, we may act 1");
        dueEase("if case 0 or not not(case 1 or case 2)or case 3,we may act 1", "if case 0 or case 1 or case 2 or case 3, we may act 1");
        dueEase("if case 0 and not not(case 1 or case 2),we may act 1", "if case 0 and (case 1 or case 2), we may act 1");
        dueEase("if not(case 0 or not(case 1 and not not case 2)),we may act 1", "if not (case 0 or not (case 1 and case 2)), we may act 1");
        dueEase("if not((not(case 0 or case 1))),we may act 1", "if case 0 or case 1, we may act 1");
    }

    private static void easeOfNothing() {
        String[] texts = {"we may act 1", "act 1 may be done by we within 3", "if case 0,we may act 1", "if not case 0,we may act 1",
            "if(case 0),we may act 1", "if not(case 0 and not(case 1 or not case 2)),we may act 1", "we must not act 1"};
        for (String text : texts) {
            Desk desk = Desk.reading(text);
            String before = desk.state();
            Desk.due("ease(0) of " + text, desk.words.ease(0), false);
            Desk.due("the state behind it", desk.state(), before);
        }
        Desk.due("written", easedAlready().written(), "if not (case 0 and case 1), we may act 1");
    }

    private static Desk easedAlready() {
        Desk desk = Desk.reading("if not(case 0 and(case 1)),we may act 1");
        desk.words.ease(0);
        return desk;
    }

    private static void easeOfTheDeepest() {
        String deep = "case 1 and (case 2 or ".repeat(12) + "case 3" + ")".repeat(12);
        dueEase("we may act 1 unless " + deep, "if not (" + deep + "), we may act 1");
        String nots = "case 1 and (case 2 or ".repeat(10);
        dueEase("if case 0,we may act 1 unless " + nots + "not not case 3" + ")".repeat(10),
                "if case 0 and not (" + nots + "case 3" + ")".repeat(10) + "), we may act 1");
        String ahead = " or case 2) and case 1".repeat(10);
        dueEase("if case 0,we may act 1 unless " + "(".repeat(10) + "not not case 3" + ahead,
                "if case 0 and not (" + "(".repeat(10) + "case 3" + ahead + "), we may act 1");
        Desk desk = Desk.reading("we may act 1 unless " + deep);
        desk.words.ease(0);
        desk.words.write();
        Desk.dueOf("letter() of it", desk.words::letter, "IllegalArgumentException");
        // Of its not and its 13 (, the 12th ( is the 13th one deep.
        Desk.due("fault() of it", desk.words.fault(), "if not (".length() + "case 1 and (case 2 or ".length() * 10 + "case 1 and ".length());
        Desk.due("the letter stays", desk.words.look(0, 7), 1);
    }

    private static void again() {
        String text = "act 1 and act 2 may be done by we unless not case 1; act 3 may be done by we unless not case 1";
        String[] turns = {"part", "melt", "turn", "ease", "plainest", "all"};
        for (String turn : turns) {
            Desk desk = Desk.reading(text);
            boolean all = turn.equals("all");
            Desk.due("melt(0)", (all || turn.equals("melt")) && !desk.words.melt(0), false);
            Desk.due("part(0)", (all || turn.equals("part")) && !desk.words.part(0), false);
            Desk.due("turn(0)", (all || turn.equals("turn")) && !desk.words.turn(0), false);
            Desk.due("ease(0)", (all || turn.equals("ease")) && !desk.words.ease(0), false);
            Desk.due("plainest()", turn.equals("plainest") && desk.words.plainest() == desk.words.cost(true), false);
            desk.words.again();
            Desk.due("count(1) behind " + turn, desk.words.count(1), 2);
            Desk.due("cost(false) behind " + turn, desk.words.cost(false), desk.words.cost(true));
            Desk.due("written behind " + turn, desk.written(), text);
        }
    }

    private static void againOfTheSame() {
        Desk desk = Desk.reading("we may act 1;we may act 2");
        desk.tape("abc");
        String before = desk.state();
        desk.words.again();
        desk.words.again();
        Desk.due("the state behind it", desk.state(), before);
    }

    private static void againWithoutLetter() {
        Desk desk = new Desk();
        Desk.dueOf("again()", () -> againOf(desk), "IllegalStateException");
        desk.refuse("we may act 1;");
        Desk.dueOf("again() behind a wrong letter", () -> againOf(desk), "IllegalStateException");
        Desk.due("count(1)", desk.words.count(1), 0);
    }
}
