/** The boundary cases of the TAPE: promises 2, 3, 15 and 16. */
final class TapeBounds {
    private static final int LEAST = Integer.MIN_VALUE;
    private static final int MOST = Integer.MAX_VALUE;

    private TapeBounds() {
    }

    static void all() {
        Bounds.bound(2, "Twenty bytes come behind the TAPE (an empty one, a cut one, a written one)", TapeBounds::comeBehind);
        Bounds.bound(2, "of each number the highest first (numbers below 0 too)", TapeBounds::highestFirst);
        Bounds.bound(2, "how many it has (20 to 400, the last twenty full)", TapeBounds::howManyItHas);
        Bounds.bound(2, "NONE, and none come, if it would have more than 400 (at 381, 399 and 400)", TapeBounds::noneCome);
        Bounds.bound(3, "The TAPE has its first n bytes alone: true", TapeBounds::firstAlone);
        Bounds.bound(3, "true for n as many as it has, and for none of none", TapeBounds::endOfAll);
        Bounds.bound(3, "false, and nothing happens, if it has fewer", TapeBounds::endOfMore);
        Bounds.bound(3, "false, and nothing happens, if n is below 0", TapeBounds::endBelowNone);
        Bounds.bound(15, "in place of what the TAPE had (nothing, less, more, 400)", TapeBounds::inPlace);
        Bounds.bound(15, "how many bytes: 400 can be", TapeBounds::writesFourHundred);
        Bounds.bound(15, "NONE, and nothing happens, if it is more than 400 (401)", TapeBounds::refusesFourHundredOne);
        Bounds.bound(15, "NONE, and nothing happens, if it is far more than 400", TapeBounds::refusesFarMore);
        Bounds.bound(15, "one blank between, none ahead or behind", TapeBounds::blanks);
        Bounds.bound(15, "no blank behind (, ahead of ), and ahead of , and ;", TapeBounds::noBlanks);
        Bounds.bound(15, "Around an or within an and there stand ( and )", TapeBounds::orWithinAnd);
        Bounds.bound(15, "around an and or an or within not there stand ( and )", TapeBounds::rowWithinNot);
        Bounds.bound(15, "elsewhere none", TapeBounds::elsewhereNone);
        Bounds.bound(15, "an and within an and, an or within an or as one row", TapeBounds::oneRow);
        Bounds.bound(15, "NUMBERS of 1, 2 and 3 digits", TapeBounds::numbers);
        Bounds.bound(15, "IllegalStateException: there is no LETTER; the TAPE stays", TapeBounds::writeWithoutLetter);
        Bounds.bound(16, "Byte i of the TAPE (the first, the last, 0, above 127)", TapeBounds::bytes);
        Bounds.bound(16, "NONE if there is none such: below 0 and behind the last", TapeBounds::noSuchByte);
        Bounds.bound(16, "NONE if there is none such: of an empty TAPE and of a used up one", TapeBounds::noByteAtAll);
        Bounds.bound(16, "NONE if there is none such: of bytes that end took away", TapeBounds::cutBytes);
    }

    private static Desk full() {
        Desk desk = new Desk();
        for (int i = 1; i <= 20; i++) {
            desk.words.feed(i, i << 8, i << 16, i << 24, ~i);
        }
        return desk;
    }

    private static void comeBehind() {
        Desk desk = new Desk();
        desk.words.feed(0x61616161, 0, 0, 0, 0x7a7a7a7a);
        desk.words.end(3);
        Desk.due("feed behind a cut tape", desk.words.feed(0x62626262, 0x63636363, 0x64646464, 0x65656565, 0x66666666), 23);
        Desk.due("the tape", desk.taped(), "aaabbbbccccddddeeeeffff");
        Desk written = Desk.reading("we may act 1");
        written.words.write();
        Desk.due("feed behind a written tape", written.words.feed(0x3b3b3b3b, 0x20202020, 0x20202020, 0x20202020, 0x21212121), 32);
        Desk.due("the tape", written.taped(), "we may act 1;;;;            !!!!");
        Desk used = new Desk();
        used.words.feed(0x61616161, 0x61616161, 0x61616161, 0x61616161, 0x61616161);
        Desk.answer(used.words::letter);
        Desk.due("feed of a used up tape", used.words.feed(0x62626262, 0, 0, 0, 0), 20);
        Desk.due("its first byte", used.words.taped(0), 0x62);
    }

    private static void highestFirst() {
        Desk desk = new Desk();
        desk.words.feed(0x01020304, -2, LEAST, MOST, 0x00008001);
        int[] due = {1, 2, 3, 4, 255, 255, 255, 254, 128, 0, 0, 0, 127, 255, 255, 255, 0, 0, 128, 1};
        for (int i = 0; i < due.length; i++) {
            Desk.due("taped(" + i + ")", desk.words.taped(i), due[i]);
        }
    }

    private static void howManyItHas() {
        Desk desk = new Desk();
        for (int size = 20; size <= 400; size += 20) {
            Desk.due("feed to " + size, desk.words.feed(size, 0, 0, 0, size / 20), size);
            Desk.due("count(2)", desk.words.count(2), size);
            Desk.due("the last byte", desk.words.taped(size - 1), size / 20);
        }
        Desk one = new Desk();
        one.words.feed(0, 0, 0, 0, 0);
        one.words.end(1);
        Desk.due("feed behind 1", one.words.feed(0, 0, 0, 0, 0), 21);
    }

    private static void noneCome() {
        for (int size : new int[] {381, 390, 399, 400}) {
            Desk desk = full();
            desk.words.end(size);
            int last = desk.words.taped(size - 1);
            Desk.due("feed at " + size, desk.words.feed(-1, -1, -1, -1, -1), -1);
            Desk.due("count(2) behind it", desk.words.count(2), size);
            Desk.due("the last byte behind it", desk.words.taped(size - 1), last);
            Desk.due("no byte came behind it", desk.words.taped(size), -1);
        }
        Desk desk = full();
        desk.words.end(380);
        Desk.due("feed at 380", desk.words.feed(-1, -1, -1, -1, -1), 400);
    }

    private static void firstAlone() {
        Desk desk = new Desk();
        desk.feed("abcdefghijklmnopqrstuvwxyz");
        Desk.due("end(25)", desk.words.end(25), true);
        Desk.due("the tape", desk.taped(), "abcdefghijklmnopqrstuvwxy");
        Desk.due("end(1)", desk.words.end(1), true);
        Desk.due("the tape", desk.taped(), "a");
        Desk.due("end(0)", desk.words.end(0), true);
        Desk.due("the tape", desk.taped(), "");
    }

    private static void endOfAll() {
        Desk desk = new Desk();
        Desk.due("end(0) of none", desk.words.end(0), true);
        desk.feed("abc");
        Desk.due("end(3) of 3", desk.words.end(3), true);
        Desk.due("the tape", desk.taped(), "abc");
        Desk full = full();
        Desk.due("end(400) of 400", full.words.end(400), true);
        Desk.due("count(2)", full.words.count(2), 400);
    }

    private static void endOfMore() {
        Desk desk = new Desk();
        Desk.due("end(1) of none", desk.words.end(1), false);
        Desk.due("count(2)", desk.words.count(2), 0);
        desk.feed("abc");
        for (int n : new int[] {4, 20, 400, 401, MOST}) {
            Desk.due("end(" + n + ") of 3", desk.words.end(n), false);
            Desk.due("the tape", desk.taped(), "abc");
        }
        Desk full = full();
        Desk.due("end(401) of 400", full.words.end(401), false);
        Desk.due("count(2)", full.words.count(2), 400);
    }

    private static void endBelowNone() {
        Desk desk = new Desk();
        Desk.due("end(-1) of none", desk.words.end(-1), false);
        desk.feed("abc");
        for (int n : new int[] {-1, -2, -3, -4, -400, LEAST}) {
            Desk.due("end(" + n + ") of 3", desk.words.end(n), false);
            Desk.due("the tape", desk.taped(), "abc");
        }
    }

    private static void inPlace() {
        String[] had = {"", "abc", "something longer than the letter", "x".repeat(400)};
        for (String text : had) {
            Desk desk = Desk.reading("we may act 1");
            desk.tape(text);
            Desk.due("write() in place of " + text.length(), desk.words.write(), 12);
            Desk.due("the tape", desk.taped(), "we may act 1");
            Desk.due("taped(12)", desk.words.taped(12), -1);
        }
    }

    /** Eight sentences that are read from less than they are written with: so many bytes more by their last one. */
    private static String letterOf(int bytes) {
        String seven = "they may act 1; ".repeat(7);
        StringBuilder last = new StringBuilder("if case 0");
        int lacking = bytes - seven.length() - ", we may act 1".length() - last.length();
        for (int nots = 0; nots <= 10; nots++) {
            if ((lacking - 4 * nots) % 10 == 0) {
                last.append(" or case 1".repeat((lacking - 4 * nots) / 10)).append(", we may act 1");
                return seven + last.insert(3, "not ".repeat(nots));
            }
            if ((lacking - 4 * nots - 1) % 10 == 0) {
                last.append(" or case 1".repeat((lacking - 4 * nots - 1) / 10)).append(", we must act 1");
                return seven + last.insert(3, "not ".repeat(nots));
            }
        }
        throw new IllegalStateException("no letter has " + bytes + " bytes");
    }

    private static Desk readingTight(String letter) {
        return Desk.reading(letter.replace("; ", ";").replace(", ", ","));
    }

    private static void writesFourHundred() {
        for (int bytes : new int[] {399, 400}) {
            Desk desk = readingTight(letterOf(bytes));
            Desk.due("write() of " + bytes, desk.words.write(), bytes);
            Desk.due("the tape", desk.taped(), letterOf(bytes));
        }
    }

    private static void refusesFourHundredOne() {
        Desk desk = readingTight(letterOf(401));
        desk.tape("abc");
        String before = desk.state();
        Desk.due("write() of 401", desk.words.write(), -1);
        Desk.due("the state behind it", desk.state(), before);
    }

    private static void refusesFarMore() {
        Desk desk = Desk.reading("if case 0,act 1 and act 2 and act 3 may be done by they unless case 1;".repeat(5) + "we may act 1");
        for (int i = 4; i >= 0; i--) {
            desk.words.part(i);
        }
        desk.tape("abc");
        Desk.due("write() of some 1000", desk.words.write(), -1);
        Desk.due("the tape", desk.taped(), "abc");
        Desk.due("count(1)", desk.words.count(1), 16);
        desk.words.again();
        for (int i = 0; i < 5; i++) {
            desk.words.turn(i);
        }
        Desk.due("write() once it is short enough", desk.words.write(), 5 * 61 + 12);
    }

    private static void blanks() {
        Desk.dueWritten("   if   not   case   1   ,   act   2   and   act   3   must   not   be   done   by   we   unless   case   4"
                        + "   and   case   5   within   6   ;   you   may   act   7   ",
                "if not case 1, act 2 and act 3 must not be done by we unless case 4 and case 5 within 6; you may act 7");
        Desk.dueWritten("if not case1,act2and act3must not be done by we unless case4and case5within6;you may act7",
                "if not case 1, act 2 and act 3 must not be done by we unless case 4 and case 5 within 6; you may act 7");
    }

    private static void noBlanks() {
        Desk.dueWritten("if not ( case 1 or case 2 ) and ( case 3 or case 4 ) , we may act 1 ; we may act 2 unless not ( case 1 and case 2 ) ;"
                        + " we may act 3",
                "if not (case 1 or case 2) and (case 3 or case 4), we may act 1; we may act 2 unless not (case 1 and case 2); we may act 3");
        Desk.dueWritten("if not ( ( case 1 or case 2 ) and ( case 3 or case 4 ) ) , we may act 1",
                "if not ((case 1 or case 2) and (case 3 or case 4)), we may act 1");
    }

    private static void orWithinAnd() {
        Desk.dueWritten("if(case 0 or case 1)and case 2,we may act 1", "if (case 0 or case 1) and case 2, we may act 1");
        Desk.dueWritten("if case 0 and(case 1 or case 2),we may act 1", "if case 0 and (case 1 or case 2), we may act 1");
        Desk.dueWritten("we may act 1 unless case 0 and((case 1 or case 2))and case 3",
                "we may act 1 unless case 0 and (case 1 or case 2) and case 3");
    }

    private static void rowWithinNot() {
        Desk.dueWritten("if not(case 0 and case 1),we may act 1", "if not (case 0 and case 1), we may act 1");
        Desk.dueWritten("if not(case 0 or case 1),we may act 1", "if not (case 0 or case 1), we may act 1");
        Desk.dueWritten("we may act 1 unless not not((case 0 or case 1))", "we may act 1 unless not not (case 0 or case 1)");
    }

    private static void elsewhereNone() {
        Desk.dueWritten("if(case 0),we may act 1", "if case 0, we may act 1");
        Desk.dueWritten("if(case 0 or case 1),we may act 1", "if case 0 or case 1, we may act 1");
        Desk.dueWritten("if((case 0)and(case 1)),we may act 1", "if case 0 and case 1, we may act 1");
        Desk.dueWritten("if(case 0 and case 1)or(case 2 and case 3),we may act 1", "if case 0 and case 1 or case 2 and case 3, we may act 1");
        Desk.dueWritten("if not(case 0),we may act 1", "if not case 0, we may act 1");
        Desk.dueWritten("if not(not(case 0)),we may act 1", "if not not case 0, we may act 1");
        Desk.dueWritten("if(not case 0)and(not case 1)or(not case 2),we may act 1", "if not case 0 and not case 1 or not case 2, we may act 1");
        Desk.dueWritten("we may act 1 unless((((((((((((case 0))))))))))))", "we may act 1 unless case 0");
    }

    private static void oneRow() {
        Desk.dueWritten("if case 0 and(case 1 and(case 2 and case 3)),we may act 1", "if case 0 and case 1 and case 2 and case 3, we may act 1");
        Desk.dueWritten("if((case 0 or case 1)or case 2)or case 3,we may act 1", "if case 0 or case 1 or case 2 or case 3, we may act 1");
        Desk.dueWritten("if(case 3 and case 2)and(case 1 and case 0),we may act 1", "if case 3 and case 2 and case 1 and case 0, we may act 1");
        Desk.dueWritten("if not(case 0 or(case 1 or case 2)),we may act 1", "if not (case 0 or case 1 or case 2), we may act 1");
    }

    private static void numbers() {
        Desk.dueWritten("we must act 0 within 1;we must act 9 within 9;we must act 1 within 10;we must act 2 within 99",
                "we must act 0 within 1; we must act 9 within 9; we must act 1 within 10; we must act 2 within 99");
        Desk.dueWritten("we must act 0 within 100;we must act 9 within 109;we must act 1 within 190;we must act 2 within 365",
                "we must act 0 within 100; we must act 9 within 109; we must act 1 within 190; we must act 2 within 365");
        for (int days = 1; days <= 365; days++) {
            Desk.dueWritten("we must act 0 within " + days, "we must act 0 within " + days);
        }
        // A NUMBER is what it says, however many digits it was told with.
        Desk.dueWritten("if case 005,we must act 09 within 010", "if case 5, we must act 9 within 10");
    }

    private static void writeWithoutLetter() {
        Desk desk = new Desk();
        desk.feed("abc");
        Desk.dueOf("write()", desk.words::write, "IllegalStateException");
        Desk.due("the tape", desk.taped(), "abc");
    }

    private static void bytes() {
        Desk desk = new Desk();
        desk.words.feed(0x00ff7f80, 0, 0, 0, 0x000000fe);
        int[] at = {0, 1, 2, 3, 18, 19};
        int[] due = {0, 255, 127, 128, 0, 254};
        for (int i = 0; i < at.length; i++) {
            Desk.due("taped(" + at[i] + ")", desk.words.taped(at[i]), due[i]);
        }
        Desk full = full();
        Desk.due("taped(0) of 400", full.words.taped(3), 1);
        Desk.due("taped(399) of 400", full.words.taped(399), ~20 & 255);
    }

    private static void noSuchByte() {
        Desk desk = new Desk();
        desk.feed("abc");
        for (int i : new int[] {-1, 3, 4, 19, 20, 399, 400, MOST, LEAST}) {
            Desk.due("taped(" + i + ") of 3", desk.words.taped(i), -1);
        }
        Desk full = full();
        for (int i : new int[] {-1, 400, 401, MOST, LEAST}) {
            Desk.due("taped(" + i + ") of 400", full.words.taped(i), -1);
        }
    }

    private static void noByteAtAll() {
        Desk desk = new Desk();
        Desk.due("taped(0) of a new object", desk.words.taped(0), -1);
        desk.read("we may act 1");
        Desk.due("taped(0) behind a right letter", desk.words.taped(0), -1);
        desk.refuse("abc");
        Desk.due("taped(0) behind a wrong letter", desk.words.taped(0), -1);
    }

    private static void cutBytes() {
        Desk desk = new Desk();
        desk.feed("abc");
        desk.words.end(2);
        Desk.due("taped(2)", desk.words.taped(2), -1);
        Desk.due("taped(1)", desk.words.taped(1), (int) 'b');
    }
}
