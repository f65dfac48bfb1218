import java.util.Arrays;
import java.util.List;

/** The boundary cases of the first wrong byte: promise 5, and the sentence of Terms 1 that it rests on. */
final class FaultBounds {
    private static final String EIGHT = "we may act 1;".repeat(7) + "we may act 1";

    private FaultBounds() {
    }

    static void all() {
        Bounds.bound(5, "NONE ahead of any letter()", FaultBounds::aheadOfAny);
        Bounds.bound(5, "NONE without one: behind a right text", FaultBounds::behindRight);
        Bounds.bound(5, "of the latest letter()", FaultBounds::ofTheLatest);
        Bounds.bound(5, "of the latest letter(): no other call changes it", FaultBounds::staysOtherwise);
        Bounds.bound(5, "the first wrong byte: of several the first", FaultBounds::firstOfSeveral);
        Bounds.bound(5, "the begin of the first thing that cannot stand there", FaultBounds::cannotStand);
        Bounds.bound(5, "the first thing that cannot stand there: each thing in each place", FaultBounds::eachThingInEachPlace);
        Bounds.bound(5, "a NUMBER of more digits: its begin", FaultBounds::moreDigits);
        Bounds.bound(5, "a NUMBER out of its bounds: its begin", FaultBounds::outOfBounds);
        Bounds.bound(5, "a word that is none: its begin", FaultBounds::noWord);
        Bounds.bound(5, "an act told again: its NUMBER", FaultBounds::toldAgain);
        Bounds.bound(5, "an and ahead of a 4th act", FaultBounds::fourthAct);
        Bounds.bound(5, "a ; ahead of a 9th SENTENCE", FaultBounds::ninthSentence);
        Bounds.bound(5, "the ( or not that is a 13th one deep", FaultBounds::thirteenthDeep);
        Bounds.bound(5, "the text's length, if more must come", FaultBounds::moreMustCome);
        Bounds.bound(5, "the text's length: blanks behind count", FaultBounds::blanksBehind);
        Bounds.bound(5, "the text's length: 0 of an empty one, 400 of a full one", FaultBounds::emptyAndFull);
    }

    private static void aheadOfAny() {
        Desk desk = new Desk();
        Desk.due("fault() of a new object", desk.words.fault(), -1);
        desk.feed("nonsense");
        Desk.due("fault() ahead of letter()", desk.words.fault(), -1);
    }

    private static void behindRight() {
        Desk desk = Desk.reading("we may act 1");
        Desk.due("fault()", desk.words.fault(), -1);
    }

    private static void ofTheLatest() {
        Desk desk = new Desk();
        desk.refuse("we must");
        Desk.due("fault() of the first", desk.words.fault(), 7);
        desk.refuse("we x");
        Desk.due("fault() of the second", desk.words.fault(), 3);
        desk.read("we may act 1");
        Desk.due("fault() of the right one", desk.words.fault(), -1);
        desk.refuse("x");
        Desk.due("fault() of the wrong one behind it", desk.words.fault(), 0);
    }

    private static void staysOtherwise() {
        Desk desk = Desk.reading("act 1 and act 2 may be done by we unless case 1");
        desk.refuse("we x");
        desk.words.feed(0, 0, 0, 0, 0);
        desk.words.end(0);
        desk.words.end(-1);
        desk.words.part(0);
        desk.words.melt(0);
        desk.words.turn(0);
        desk.words.ease(0);
        desk.words.plainest();
        desk.words.again();
        desk.words.write();
        Desk.answer(() -> desk.words.look(9, 9));
        Desk.due("fault()", desk.words.fault(), 3);
        Desk.due("fault() again", desk.words.fault(), 3);
    }

    private static void firstOfSeveral() {
        Desk.dueFaultAtMark("we may act ^10 and act 11");
        Desk.dueFaultAtMark("if case ^6,we may act 10 within 0");
        Desk.dueFaultAtMark("we may act 1 ^x y z");
        Desk.dueFaultAtMark("we may act 1 within ^366;;");
        Desk.dueFaultAtMark("^x" + EIGHT + ";we may act 1");
    }

    private static void cannotStand() {
        String[] marked = {"^may act 1", "^by we", "^1", "^(case 1)", "^;", "^,we may act 1", "we ^we may act 1", "we ^not act 1",
            "we may ^not act 1", "we must not ^not act 1", "we must ^be done", "we may act ^act 1", "we may act 1 ^2", "we may act 1 ^act 2",
            "we may act 1 and ^2", "we may act 1 ^may be done", "we may act 1^,act 2", "act 1 ^be done", "act 1 may ^done",
            "act 1 may be ^act", "act 1 may be done ^we", "act 1 may be done by ^act", "act 1 may be done by we ^you",
            "act 1 may be done ^and act 2", "if ^,we may act 1", "if ^we may act 1", "if case 1 ^we may act 1", "if case 1^;we may act 1",
            "if case 1,^if case 2,we may act 1", "if case 1,^unless case 2", "if case 1 ^not case 2,we may act 1",
            "if case 1^(case 2),we may act 1", "if case ^(1),we may act 1", "if (^),we may act 1", "if case 1^),we may act 1",
            "if (case 1^,we may act 1", "if not ^and case 1,we may act 1", "if case 1 and ^or case 2,we may act 1",
            "we may act 1 unless ^within 3", "we may act 1 unless ^if case 1", "we may act 1 unless case 1^,", "we may act 1 unless case 1^)",
            "we may act 1 unless case 1 and ^act 2", "we may act 1 unless case 1 ^unless case 2", "we may act 1 within ^case 1",
            "we may act 1 within 3 ^within 4", "we may act 1 within 3 ^unless case 1", "we may act 1 within 3 ^and act 2",
            "we may act 1;^;we may act 2", "we may act 1 ^if case 1", "we may act 1^.", "we may act 1 ^we may act 2"};
        for (String text : marked) {
            Desk.dueFaultAtMark(text);
            Desk.dueFaultAtMark("  you must act 0 ;  " + text);
        }
    }

    /** What is ahead, and all things that can stand behind it; END if the text can. */
    private static final String[][] PLACES = {
        {"", "if you we they act"}, {"if ", "case not ("}, {"if not ", "case not ("}, {"if ( ", "case not ("}, {"if case ", "1"},
        {"if case 0 ", "and or ,"}, {"if ( case 0 ", "and or )"}, {"if ( case 0 ) ", "and or ,"}, {"if not case 0 ", "and or ,"},
        {"if case 0 and ", "case not ("}, {"if case 0 or ", "case not ("}, {"if case 0 , ", "you we they act"},
        {"you ", "must may"}, {"we must ", "not act"}, {"they must not ", "act"}, {"you may ", "act"}, {"you may act ", "1"},
        {"you may act 0 ", "and unless within ; END"}, {"you may act 0 and ", "act"}, {"you may act 0 and act ", "1"},
        {"you may act 0 and act 2 ", "and unless within ; END"}, {"you may act 0 and act 2 and act 3 ", "unless within ; END"},
        {"act ", "1"}, {"act 0 ", "and must may"}, {"act 0 and ", "act"}, {"act 0 and act 2 and act 3 ", "must may"},
        {"act 0 must ", "not be"}, {"act 0 must not ", "be"}, {"act 0 may ", "be"}, {"act 0 may be ", "done"},
        {"act 0 may be done ", "by unless within ; END"}, {"act 0 may be done by ", "you we they"},
        {"act 0 may be done by you ", "unless within ; END"}, {"you may act 0 unless ", "case not ("},
        {"you may act 0 unless not ", "case not ("}, {"you may act 0 unless case ", "1"},
        {"you may act 0 unless case 0 ", "and or within ; END"}, {"you may act 0 unless case 0 and ", "case not ("},
        {"you may act 0 unless ( case 0 ", "and or )"}, {"you may act 0 unless ( case 0 ) ", "and or within ; END"},
        {"you may act 0 within ", "1"}, {"you may act 0 within 9 ", "; END"}, {"you may act 0 ; ", "if you we they act"},
        {"you may act 0 ; you may act 0 ", "and unless within ; END"}, {EIGHT + " ", "and unless within END"},
        {EIGHT + " within 3 ", "END"}, {"if ((((((((((((", "case"}, {"if not not not not not not not not not not not not ", "case"},
        {"you may act 0 unless not(((((((((((", "case"}
    };
    private static final String THINGS = "you we they must not may act and or be done by if unless within case 1 ( ) , ; us . YOU";

    private static void eachThingInEachPlace() {
        for (String[] place : PLACES) {
            String ahead = place[0];
            List<String> can = Arrays.asList(place[1].split(" "));
            for (String thing : THINGS.split(" ")) {
                Desk desk = new Desk();
                desk.tape(ahead + thing);
                Desk.answer(desk.words::letter);
                int fault = desk.words.fault();
                boolean stands = fault == -1 || fault == ahead.length() + thing.length();
                Desk.due("\"" + thing + "\" can stand behind \"" + ahead + "\": with fault() " + fault + " this", stands, can.contains(thing));
                Desk.due("fault() is where it begins", stands || fault == ahead.length(), true);
            }
            Desk desk = new Desk();
            desk.tape(ahead);
            Desk.answer(desk.words::letter);
            Desk.due("fault() of \"" + ahead + "\"", desk.words.fault(), can.contains("END") ? -1 : ahead.length());
        }
    }

    private static void moreDigits() {
        Desk.dueFaultAtMark("we may act ^0000");
        Desk.dueFaultAtMark("we may act ^0001 and act 2");
        Desk.dueFaultAtMark("if case ^1234");
        Desk.dueFaultAtMark("we may act 1 within ^0365");
    }

    private static void outOfBounds() {
        Desk.dueFaultAtMark("we may act 1 and act ^10");
        Desk.dueFaultAtMark("if case 5 or case ^6,we may act 1");
        Desk.dueFaultAtMark("we may act 1 within ^0");
        Desk.dueFaultAtMark("we may act 1 within ^366");
    }

    private static void noWord() {
        Desk.dueFaultAtMark("^us may act 1");
        Desk.dueFaultAtMark("we ^m");
        Desk.dueFaultAtMark("we ^maybe act 1");
        Desk.dueFaultAtMark("we may ^ac");
        Desk.dueFaultAtMark("we may ^acts 1");
        Desk.dueFaultAtMark("act 1 may be done by ^us");
        Desk.dueFaultAtMark("we may act 1^a");
        Desk.dueFaultAtMark("we may act 1 ^" + "z".repeat(387));
    }

    private static void toldAgain() {
        Desk.dueFaultAtMark("we may act 1 and act ^1 and act 2");
        Desk.dueFaultAtMark("act 1 and act 2 and act   ^2 may be done");
        Desk.dueFaultAtMark("act 3 and act 2 and act ^003 may be done");
    }

    private static void fourthAct() {
        Desk.dueFaultAtMark("we may act 1 and act 2 and act 3   ^and act 4");
        Desk.dueFaultAtMark("we may act 1 and act 2 and act 3 ^and act 1");
        Desk.dueFaultAtMark("we may act 1 and act 2 and act 3 ^and");
        Desk.dueFaultAtMark("act 1 and act 2 and act 3 ^and act 4 may be done");
    }

    private static void ninthSentence() {
        Desk.dueFaultAtMark(EIGHT + "^;we may act 1");
        Desk.dueFaultAtMark(EIGHT + "   ^;   we may act 1");
        Desk.dueFaultAtMark(EIGHT + "^;");
        Desk.dueFaultAtMark(EIGHT + " within 3^;nonsense");
    }

    private static void thirteenthDeep() {
        String eleven = "(((((((((((";
        Desk.dueFaultAtMark("if (" + eleven + "^(");
        Desk.dueFaultAtMark("if (" + eleven + "   ^not case 1");
        Desk.dueFaultAtMark("if not" + eleven + "^not");
        Desk.dueFaultAtMark("if not" + eleven + "case 1 or ^(case 2");
        Desk.dueFaultAtMark("if not" + eleven + "case 1) or not ^(case 2");
        Desk.dueFaultAtMark("we may act 1 unless case 1 and " + eleven + "not ^not case 1");
    }

    /** Each begin of a text that is none lacks something at its end, and nowhere else. */
    private static void moreMustCome() {
        String[] begins = {"if", "if not", "if (", "if (case 1", "if (case 1 or", "if (case 1 or case 2", "if case", "if case 1", "if case 1 and",
            "if case 1 or", "if case 1,", "we", "we must", "we must not", "we may", "we may act", "we may act 1 and", "we may act 1 and act",
            "act", "act 1", "act 1 and", "act 1 must", "act 1 must not", "act 1 may be", "act 1 may be done by", "we may act 1 unless",
            "we may act 1 unless not", "we may act 1 unless case", "we may act 1 unless (case 1", "we may act 1 unless case 1 or",
            "we may act 1 within", "we may act 1;", "we may act 1;act 2 may be"};
        for (String begin : begins) {
            Desk.dueFault(begin, begin.length());
        }
    }

    private static void blanksBehind() {
        Desk.dueFault("we may   ", 9);
        Desk.dueFault("   ", 3);
        Desk.dueFault("we may act 1;  ", 15);
        Desk.dueFault("if case 1 ", 10);
    }

    private static void emptyAndFull() {
        Desk.dueFault("", 0);
        Desk.dueFault(" ".repeat(400), 400);
        String begin = "we may act 1 unless case 1";
        Desk.dueFault(begin + "or case 1".repeat(40) + " or" + " ".repeat(11), 400);
        Desk.dueFaultAtMark("we may act 1" + " ".repeat(387) + "^x");
        Desk.dueFaultAtMark(" ".repeat(399) + "^(");
        Desk.dueFault(" ".repeat(398) + "we", 400);
    }
}
