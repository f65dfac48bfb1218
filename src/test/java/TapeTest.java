/** Promises 1, 2, 3, 15, 16 and what 19 counts of the tape. */
public final class TapeTest {
    public static void main(String[] args) {
        newObject();
        feeding();
        ending();
        writing();
        tooLongToWrite();
        Desk.finish();
    }

    private static void newObject() {
        Counted x = new Counted();
        for (int what = 0; what <= 4; what++) {
            Desk.due("new: count(" + what + ")", x.count(what), 0);
        }
        Desk.due("new: count(5)", x.count(5), -1);
        Desk.due("new: count(-1)", x.count(-1), -1);
        Desk.due("new: count(least)", x.count(Integer.MIN_VALUE), -1);
        Desk.due("new: fault()", x.fault(), -1);
        Desk.due("new: taped(0)", x.taped(0), -1);
        String none = "IllegalStateException";
        Desk.dueOf("new: part", () -> x.part(0), none);
        Desk.dueOf("new: melt", () -> x.melt(-1), none);
        Desk.dueOf("new: turn", () -> x.turn(7), none);
        Desk.dueOf("new: ease", () -> x.ease(0), none);
        Desk.dueOf("new: plainest", x::plainest, none);
        Desk.dueOf("new: again", () -> { x.again(); return 0; }, none);
        Desk.dueOf("new: cost(true)", () -> x.cost(true), none);
        Desk.dueOf("new: cost(false)", () -> x.cost(false), none);
        Desk.dueOf("new: look", () -> x.look(-1, 99), none);
        Desk.dueOf("new: same", x::same, none);
        Desk.dueOf("new: write", x::write, none);
        Desk.dueOf("new: ask", () -> x.ask(true, 9, 99, 0), none);
        Desk.dueOf("new: days", () -> x.days(9, 99, 0), none);
    }

    private static void feeding() {
        Counted x = new Counted();
        Desk.due("first feed", x.feed(0x01020304, -1, 0x80000000, 0x7f00ff10, 5), 20);
        int[] bytes = {1, 2, 3, 4, 255, 255, 255, 255, 128, 0, 0, 0, 127, 0, 255, 16, 0, 0, 0, 5};
        for (int i = 0; i < bytes.length; i++) {
            Desk.due("taped(" + i + ")", x.taped(i), bytes[i]);
        }
        Desk.due("taped(-1)", x.taped(-1), -1);
        Desk.due("taped(20)", x.taped(20), -1);
        Desk.due("taped(most)", x.taped(Integer.MAX_VALUE), -1);
        for (int size = 40; size <= 400; size += 20) {
            Desk.due("feed to " + size, x.feed(size, 0, 0, 0, size), size);
        }
        Desk.due("feed beyond 400", x.feed(1, 2, 3, 4, 5), -1);
        Desk.due("count(2) at 400", x.count(2), 400);
        Desk.due("taped(399) is the last fed", x.taped(399), 400 & 255);
        Desk.due("taped(400)", x.taped(400), -1);
        Desk.due("end(381)", x.end(381), true);
        Desk.due("feed at 381", x.feed(1, 2, 3, 4, 5), -1);
        Desk.due("count(2) at 381", x.count(2), 381);
        Desk.due("end(380)", x.end(380), true);
        Desk.due("feed at 380", x.feed(1, 2, 3, 4, 5), 400);
        Desk.due("taped(383)", x.taped(383), 1);
    }

    private static void ending() {
        Counted x = new Counted();
        Desk.due("end(0) of none", x.end(0), true);
        Desk.due("end(1) of none", x.end(1), false);
        Desk.due("end(-1) of none", x.end(-1), false);
        x.feed(1, 2, 3, 4, 5);
        Desk.due("end(21)", x.end(21), false);
        Desk.due("end(-1)", x.end(-1), false);
        Desk.due("end(least)", x.end(Integer.MIN_VALUE), false);
        Desk.due("still 20", x.count(2), 20);
        Desk.due("end(20)", x.end(20), true);
        Desk.due("end(7)", x.end(7), true);
        Desk.due("7 now", x.count(2), 7);
        Desk.due("taped(6)", x.taped(6), 0);
        Desk.due("taped(7)", x.taped(7), -1);
        Desk.due("feed behind 7", x.feed(9, 9, 9, 9, 9), 27);
        Desk.due("taped(3)", x.taped(3), 1);
        Desk.due("taped(10)", x.taped(10), 9);
    }

    private static void writing() {
        Desk desk = Desk.reading("  if  (( case 01 )or case2)and(not(case 3 and case 4)),act 3 and act007must not be done"
                + " by they unless not(not case5)within 030;you may act 9  ");
        desk.words.feed(1, 2, 3, 4, 5);
        String want = "if (case 1 or case 2) and not (case 3 and case 4), act 3 and act 7 must not be done by they"
                + " unless not not case 5 within 30; you may act 9";
        Desk.due("write() in place of what was", desk.words.write(), want.length());
        Desk.due("the written letter", desk.taped(), want);
        Desk.due("count(2) of it", desk.words.count(2), want.length());
        Desk.dueWritten("if not((case 1 or case 2)and case 3),we may act 1", "if not ((case 1 or case 2) and case 3), we may act 1");
        Desk.dueWritten("if case 1 and(case 2 and case 3)or(case 4 or case 5),we may act 1",
                "if case 1 and case 2 and case 3 or case 4 or case 5, we may act 1");
        Desk.dueWritten("if not(not(case 0)and((case 1))),we must act 0 within 7;act 1 may be done unless(case 1 or(case 2 and case 3))",
                "if not (not case 0 and case 1), we must act 0 within 7; act 1 may be done unless case 1 or case 2 and case 3");
        Desk.dueWritten("they must act 1 and act 2 and act 3 within 365", "they must act 1 and act 2 and act 3 within 365");
        Desk.dueWritten("they must act 1 within 100;we must act 1 within 099;you must act 1 within 10;you must act 0 within 001",
                "they must act 1 within 100; we must act 1 within 99; you must act 1 within 10; you must act 0 within 1");
        Desk.dueWritten("if case 0 and(case 1 or case 2)and(case 3 or case 4 and(case 5 or not(case 0))),we may act 1",
                "if case 0 and (case 1 or case 2) and (case 3 or case 4 and (case 5 or not case 0)), we may act 1");
    }

    private static void tooLongToWrite() {
        // 8 sentences of 49 bytes as written, with "; " between: 8 * 49 + 14 = 406 bytes written, but 392 + 7 - 8 read.
        String tight = "if case1,they must act1and act2and act3within9";
        StringBuilder text = new StringBuilder(tight);
        for (int i = 1; i < 8; i++) {
            text.append(";").append(tight);
        }
        Desk desk = Desk.reading(text.toString());
        desk.words.feed(0x61626364, 0, 0, 0, 0);
        Desk.due("write() of more than 400", desk.words.write(), -1);
        Desk.due("the tape stays", desk.words.count(2), 20);
        Desk.due("its bytes stay", desk.words.taped(0), 0x61);

        // 400 bytes as written, to the byte; and 401.
        String seven = "they may act 1; they may act 1; they may act 1; they may act 1; they may act 1; they may act 1; they may act 1; ";
        Desk full = Desk.reading(seven + ofLength(400 - seven.length()));
        Desk.due("write() of 400", full.words.write(), 400);
        Desk.due("feed behind 400", full.words.feed(0, 0, 0, 0, 0), -1);
        Desk over = Desk.reading((seven + ofLength(401 - seven.length())).replace("; ", ";"));
        Desk.due("write() of 401", over.words.write(), -1);
        Desk.due("nothing was written", over.words.count(2), 0);
    }

    /** A sentence of so many bytes, as it is written. */
    private static String ofLength(int length) {
        String[] tails = {"", " within 1", " within 10", " within 100"};
        String[] heads = {"we may act 1", "you may act 1", "we must act 1", "they may act 1", "you must act 1"};
        for (String head : heads) {
            for (String tail : tails) {
                for (int nots = 0; nots <= 12; nots++) {
                    String text = "if " + "not ".repeat(nots) + "case 0";
                    for (int more = 0; text.length() + head.length() + tail.length() + 2 < length; more++) {
                        text += more % 2 == 0 ? " or case 1" : " and case 2";
                    }
                    text += ", " + head + tail;
                    if (text.length() == length) {
                        return text;
                    }
                }
            }
        }
        throw new IllegalStateException("no sentence has " + length + " bytes");
    }
}
