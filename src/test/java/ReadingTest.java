/** Promises 4 and 5, and what 19 counts of letters: the grammar, its bounds and the first wrong byte. */
public final class ReadingTest {
    public static void main(String[] args) {
        rightOnes();
        textEnds();
        wrongThings();
        wrongNumbers();
        tooMany();
        tooDeep();
        whatWasStays();
        Desk.finish();
    }

    private static void rightOnes() {
        Desk.dueRead("you must act 0", 1);
        Desk.dueRead("   you must act 0   ", 1);
        Desk.dueRead("we must not act 9and act 8and act 7", 1);
        Desk.dueRead("they may act 000 within 365", 1);
        Desk.dueRead("act1must be done", 1);
        Desk.dueRead("act 1 must not be done by we", 1);
        Desk.dueRead("act 1 may be done by you unless case 5 within 1", 1);
        Desk.dueRead("if(case 0),you may act 1;if not case 5 or case 4 and case 3,act 1 may be done", 2);
        Desk.dueRead("if((((((((((((case 0)))))))))))),we may act 1", 1);
        Desk.dueRead("if not(not(not(not(not(not(case 0)))))),we may act 1", 1);
        Desk.dueRead("if(((((((((((case 0))))))))))) and(((((((((((not case 0))))))))))),we may act 1", 1);
        Desk.dueRead("we may act 1;we may act 1;we may act 1;we may act 1;we may act 1;we may act 1;we may act 1;we may act 1", 8);
    }

    /** Every begin of a letter that is none lacks something at its end, and nowhere else. */
    private static void textEnds() {
        String[] things = "if ( not case 1 or case 2 ) , act 1 and act 2 must not be done by we unless case 3 and case 4 within 7 ; you may act 3"
                .split(" ");
        StringBuilder text = new StringBuilder();
        Desk.dueFault("", 0);
        Desk.dueFault("   ", 3);
        for (int i = 0; i < things.length; i++) {
            text.append(things[i]).append(i % 2 == 0 ? "  " : " ");
            String begin = text.toString();
            boolean whole = isWhole(things, i);
            if (whole) {
                Desk.dueRead(begin, i > 32 ? 2 : 1);
                Desk.dueRead(begin.trim(), i > 32 ? 2 : 1);
            } else {
                Desk.dueFault(begin, begin.length());
                Desk.dueFault(begin.trim(), begin.trim().length());
            }
        }
    }

    private static boolean isWhole(String[] things, int last) {
        StringBuilder ahead = new StringBuilder();
        for (int i = 0; i <= last; i++) {
            ahead.append(things[i]).append(' ');
        }
        return ahead.toString().matches(".*(done|we|unless case 3|and case 4|within 7|you may act 3) ");
    }

    private static void wrongThings() {
        Desk.dueFault("You must act 1", 0);
        Desk.dueFault("\tyou must act 1", 0);
        Desk.dueFault("you must act 1\n", 14);
        Desk.dueFault("you must act 1\0", 14);
        Desk.dueFault("you must\u00ff act 1", 8);
        Desk.dueFault("you must act 1.", 14);
        Desk.dueFault("youmust act 1", 0);
        Desk.dueFault("youa must act 1", 0);
        Desk.dueFault("youz must act 1", 0);
        Desk.dueFault("you`must act 1", 3);
        Desk.dueFault("you{must act 1", 3);
        Desk.dueFault("you must act 1:", 14);
        Desk.dueFault("you must act 1/", 14);
        Desk.dueFault("yo must act 1", 0);
        Desk.dueFault("you you must act 1", 4);
        Desk.dueFault("you act 1", 4);
        Desk.dueFault("you may be done", 8);
        Desk.dueFault("you may not act 1", 8);
        Desk.dueFault("you must not not act 1", 13);
        Desk.dueFault("you must act act 1", 13);
        Desk.dueFault("you must act 1 act 2", 15);
        Desk.dueFault("you must act 1 and 2", 19);
        Desk.dueFault("you must act 1, act 2", 14);
        Desk.dueFault("you must act 1 by we", 15);
        Desk.dueFault("you must act 1 be done", 15);
        Desk.dueFault("act 1 act 2 must be done", 6);
        Desk.dueFault("act 1 be done", 6);
        Desk.dueFault("act 1 must done", 11);
        Desk.dueFault("act 1 must be not done", 14);
        Desk.dueFault("act 1 must be done we", 19);
        Desk.dueFault("act 1 must be done by by", 22);
        Desk.dueFault("act 1 must be done by we they", 25);
        Desk.dueFault("act 1 must you", 11);
        Desk.dueFault("must act 1", 0);
        Desk.dueFault("unless case 1", 0);
        Desk.dueFault(";you must act 1", 0);
        Desk.dueFault("you must act 1;;you must act 1", 15);
        Desk.dueFault("if case 1,if case 2,we may act 1", 10);
        Desk.dueFault("if ,we may act 1", 3);
        Desk.dueFault("if case 1 and,we may act 1", 13);
        Desk.dueFault("if case 1 or and case 2,we may act 1", 13);
        Desk.dueFault("if and case 1,we may act 1", 3);
        Desk.dueFault("if case 1 case 2,we may act 1", 10);
        Desk.dueFault("if case 1 not case 2,we may act 1", 10);
        Desk.dueFault("if case 1 (case 2),we may act 1", 10);
        Desk.dueFault("if case not 1,we may act 1", 8);
        Desk.dueFault("if (),we may act 1", 4);
        Desk.dueFault("if case 1),we may act 1", 9);
        Desk.dueFault("if ((case 1),we may act 1", 12);
        Desk.dueFault("if (case 1 we may act 1", 11);
        Desk.dueFault("if case 1;we may act 1", 9);
        Desk.dueFault("if act 1,we may act 1", 3);
        Desk.dueFault("if case 1 unless case 2,we may act 1", 10);
        Desk.dueFault("we may act 1 if case 1", 13);
        Desk.dueFault("we may act 1 unless case 1,", 26);
        Desk.dueFault("we may act 1 unless case 1)", 26);
        Desk.dueFault("we may act 1 unless (case 1", 27);
        Desk.dueFault("we may act 1 unless (case 1 within 3", 28);
        Desk.dueFault("we may act 1 unless case 1 and act 2", 31);
        Desk.dueFault("we may act 1 unless case 1 unless case 2", 27);
        Desk.dueFault("we may act 1 within 3 within 4", 22);
        Desk.dueFault("we may act 1 within 3 unless case 1", 22);
        Desk.dueFault("we may act 1 within case 1", 20);
        Desk.dueFault("we may act 1 unless notcase 1", 20);
    }

    private static void wrongNumbers() {
        Desk.dueFault("you must act 10", 13);
        Desk.dueFault("you must act 999", 13);
        Desk.dueFault("you must act 0001", 13);
        Desk.dueFault("you must act 00000000000000000000000000000000000000000000001", 13);
        Desk.dueFault("you must act 4294967297", 13);
        Desk.dueFault("you must act 1 0", 15);
        Desk.dueFault("you must act -1", 13);
        Desk.dueFault("you must act 1 within 0", 22);
        Desk.dueFault("you must act 1 within 000", 22);
        Desk.dueFault("you must act 1 within 366", 22);
        Desk.dueFault("you must act 1 within 0365", 22);
        Desk.dueFault("if case 6,you must act 1", 8);
        Desk.dueFault("if case 006,you must act 1", 8);
        Desk.dueFault("if case 0005,you must act 1", 8);
        Desk.dueFault("you must act 1 unless case 10", 27);
        Desk.dueRead("if case 005,you must act 009 within 365", 1);
        Desk.dueRead("if case 0,you must act 0 within 001", 1);
    }

    private static void tooMany() {
        Desk.dueFault("you must act 1 and act 1", 23);
        Desk.dueFault("you must act 1 and act 2 and act 001", 33);
        Desk.dueFault("act 1 and act 2 and act 2 may be done", 24);
        Desk.dueFault("act 1 and act 2 and act 3 and", 26);
        Desk.dueFault("we may act 1 and act 2 and act 3 and act 4", 33);
        Desk.dueFault("we may act 1 and act 2 and act 3 and act 1", 33);
        String eight = "we may act 1;we may act 1;we may act 1;we may act 1;we may act 1;we may act 1;we may act 1;we may act 1";
        Desk.dueFault(eight + ";", 103);
        Desk.dueFault(eight + "  ;we may act 1", 105);
        Desk.dueFault(eight + " nonsense", 104);
    }

    private static void tooDeep() {
        String open = "((((((((((((";
        Desk.dueFault("if " + open + "(case 1", 15);
        Desk.dueFault("if " + open + "not case 1", 15);
        Desk.dueFault("if " + open + "case 6", 20);
        Desk.dueFault("if " + open + "or", 15);
        Desk.dueFault("if not (not (not (not (not (not (not case 1", 33);
        Desk.dueFault("if not (not (not (not (not (not ((case 1", 33);
        Desk.dueFault("we may act 1 unless (((((((((((case 1 or not (case 1", 45);
        // What has ended is no longer around what comes.
        Desk.dueRead("if (((((((((((not case 1 or not case 2 and (case 3) or not case 4))))))))))),we may act 1", 1);
        Desk.dueRead("if " + "not ".repeat(12) + "case 1 and " + "not ".repeat(12) + "case 1,we may act 1", 1);
        Desk.dueRead("if " + open + "case 1" + "))))))))))))" + ",we may act 1 unless " + open + "case 1" + "))))))))))))", 1);
    }

    private static void whatWasStays() {
        Desk desk = Desk.reading("you must act 1 and act 2;act 3 must be done by we");
        desk.words.turn(1);
        desk.tape("nonsense");
        Desk.dueOf("letter() of nonsense", desk.words::letter, "IllegalArgumentException");
        Desk.due("fault()", desk.words.fault(), 0);
        Desk.due("taped(0)", desk.words.taped(0), -1);
        Desk.due("count(0)", desk.words.count(0), 2);
        Desk.due("count(3)", desk.words.count(3), 1);
        Desk.due("count(4)", desk.words.count(4), 1);
        Desk.due("the new letter", desk.written(), "you must act 1 and act 2; we must act 3");
        Desk.dueOf("letter() of what was written", desk.words::letter, 2);
        Desk.due("fault()", desk.words.fault(), -1);
        Desk.due("count(3)", desk.words.count(3), 2);
        Desk.due("count(4)", desk.words.count(4), 0);
        Desk.due("the turned one is old now", desk.words.cost(true), 7 + 5 + 4 + 5);
        Desk.dueOf("letter() of nothing", desk.words::letter, "IllegalArgumentException");
        Desk.due("fault()", desk.words.fault(), 0);
    }
}
