/** The boundary cases of reading a LETTER: promise 4, and the sentences of Terms 1 that it rests on. */
final class TextBounds {
    private static final String TWELVE = "((((((((((((";
    private static final String CLOSED = "))))))))))))";

    private TextBounds() {
    }

    static void all() {
        Bounds.bound(4, "SENTENCE { ; SENTENCE }, at most 8", TextBounds::atMostEight);
        Bounds.bound(4, "[ if COND , ] BODY [ unless COND ] [ within NUMBER ]: each may be left out", TextBounds::leftOut);
        Bounds.bound(4, "PASSIVE; without by it is told of nobody", TextBounds::nobody);
        Bounds.bound(4, "WHO: you, we or they. MODE: must, must not, may", TextBounds::whoAndMode);
        Bounds.bound(4, "ACTS: at most 3", TextBounds::atMostThree);
        Bounds.bound(4, "ACTS: no two alike (but those of two SENTENCES)", TextBounds::noTwoAlike);
        Bounds.bound(4, "( and not within one another at most 12 deep", TextBounds::twelveDeep);
        Bounds.bound(4, "within one another: those side by side are not", TextBounds::sideBySide);
        Bounds.bound(4, "ALL { or ALL }, ITEM { and ITEM }: one, and as many as the TAPE holds", TextBounds::longRows);
        Bounds.bound(4, "NUMBER: 1 to 3 digits", TextBounds::digits);
        Bounds.bound(4, "of an act 0 to 9", TextBounds::actsZeroToNine);
        Bounds.bound(4, "of a case 0 to 5", TextBounds::casesZeroToFive);
        Bounds.bound(4, "of days (within) 1 to 365", TextBounds::daysOneToYear);
        Bounds.bound(4, "Words are as long as letters a to z go on", TextBounds::wordsGoOn);
        Bounds.bound(4, "between all there may be blanks (32)", TextBounds::blanksBetween);
        Bounds.bound(4, "blanks also ahead and behind", TextBounds::blanksAround);
        Bounds.bound(4, "a text of 400 bytes", TextBounds::fullTape);
        Bounds.bound(4, "Uses the TAPE up (of a right text, and of a wrong one)", TextBounds::usesUp);
        Bounds.bound(4, "a LETTER, OLD and NEW: in place of what was", TextBounds::oldAndNew);
        Bounds.bound(4, "IllegalArgumentException: the text is wrong (an empty one too)", TextBounds::wrongText);
        Bounds.bound(4, "what was stays", TextBounds::whatWasStays);
        Bounds.bound(4, "what was stays: no LETTER", TextBounds::noLetterStays);
    }

    private static void atMostEight() {
        String one = "we may act 1";
        for (int n = 1; n <= 8; n++) {
            Desk.dueRead((one + ";").repeat(n - 1) + one, n);
        }
        Desk.dueFault((one + ";").repeat(8) + one, 103);
        Desk.dueFault((one + ";").repeat(9) + one, 103);
    }

    private static void leftOut() {
        String[] ifs = {"", "if case 0, "};
        String[] bodies = {"we may act 1", "act 1 may be done", "act 1 may be done by we"};
        String[] unlesses = {"", " unless case 1"};
        String[] withins = {"", " within 7"};
        for (String when : ifs) {
            for (String body : bodies) {
                for (String unless : unlesses) {
                    for (String within : withins) {
                        String text = when + body + unless + within;
                        Desk desk = Desk.reading(text);
                        Desk.due("written of " + text, desk.written(), text);
                        Desk.due("look(0, 3) of " + text, desk.words.look(0, 3), within.isEmpty() ? -1 : 7);
                        Desk.due("look(0, 8) of " + text, desk.words.look(0, 8), unless.isEmpty() ? 0 : 1);
                        boolean counts = desk.words.ask(false, body.endsWith("done") ? 3 : 1, 1, 0) == 4;
                        Desk.due("it asks in CASE 0: " + text, counts, when.isEmpty());
                    }
                }
            }
        }
    }

    private static void nobody() {
        Desk desk = Desk.reading("act 1 must be done;act 1 must be done by they;they must act 1");
        Desk.due("look(0, 1)", desk.words.look(0, 1), 3);
        Desk.due("look(0, 4)", desk.words.look(0, 4), 1);
        Desk.due("look(1, 1)", desk.words.look(1, 1), 2);
        Desk.due("look(1, 4)", desk.words.look(1, 4), 1);
        Desk.due("look(2, 1)", desk.words.look(2, 1), 2);
        Desk.due("look(2, 4)", desk.words.look(2, 4), 0);
    }

    private static void whoAndMode() {
        String[] who = {"you", "we", "they"};
        String[] mode = {"must", "must not", "may"};
        for (int i = 0; i < 3; i++) {
            for (int k = 0; k < 3; k++) {
                Desk desk = Desk.reading(who[i] + " " + mode[k] + " act 1;act 2 " + mode[k] + " be done by " + who[i]);
                for (int s = 0; s < 2; s++) {
                    Desk.due("WHO of " + who[i], desk.words.look(s, 1), i);
                    Desk.due("MODE of " + mode[k], desk.words.look(s, 2), k);
                }
            }
        }
    }

    private static void atMostThree() {
        for (int n = 1; n <= 3; n++) {
            String acts = "act 9 and act 5 and act 7".substring(0, 10 * n - 5);
            Desk.due("ACTS of " + acts, Desk.reading("we may " + acts).words.look(0, 0), n);
            Desk.due("ACTS of " + acts, Desk.reading(acts + " may be done").words.look(0, 0), n);
        }
        Desk.dueFaultAtMark("we may act 9 and act 5 and act 7 ^and act 6");
        Desk.dueFaultAtMark("act 9 and act 5 and act 7 ^and act 6 may be done");
    }

    private static void noTwoAlike() {
        Desk.dueFaultAtMark("we may act 1 and act ^1");
        Desk.dueFaultAtMark("we may act 1 and act 2 and act ^1");
        Desk.dueFaultAtMark("we may act 1 and act 2 and act ^2");
        Desk.dueFaultAtMark("we may act 1 and act ^01");
        Desk.dueFaultAtMark("we may act 0 and act ^000");
        Desk.dueRead("we may act 1 and act 2;we may act 1 and act 2;act 2 and act 1 may be done", 3);
    }

    private static void twelveDeep() {
        Desk.dueRead("if " + TWELVE + "case 0" + CLOSED + ",we may act 1", 1);
        Desk.dueRead("if " + "not ".repeat(12) + "case 0,we may act 1", 1);
        Desk.dueRead("if " + "not(".repeat(6) + "case 0" + "))))))" + ",we may act 1", 1);
        Desk.dueRead("we may act 1 unless " + TWELVE + "case 0" + CLOSED, 1);
        Desk.dueRead("if (" + "case 0 and(".repeat(11) + "case 1" + CLOSED + ",we may act 1", 1);
        Desk.dueFaultAtMark("if " + TWELVE + "^(case 0" + CLOSED + "),we may act 1");
        Desk.dueFaultAtMark("if " + "not ".repeat(12) + "^not case 0,we may act 1");
        Desk.dueFaultAtMark("if " + TWELVE + "^not case 0" + CLOSED + ",we may act 1");
        Desk.dueFaultAtMark("if " + "not ".repeat(12) + "^(case 0),we may act 1");
        Desk.dueFaultAtMark("we may act 1 unless " + TWELVE + "^(case 0" + CLOSED + ")");
    }

    private static void sideBySide() {
        String eleven = "(((((((((((";
        Desk.dueRead("if " + "(case 0)and".repeat(20) + "(case 1),we may act 1", 1);
        Desk.dueRead("if " + "not case 0 or ".repeat(20) + "not case 1,we may act 1", 1);
        Desk.dueRead("if " + eleven + "(case 0)or not case 1 and(case 2)" + ")))))))))))" + ",we may act 1", 1);
        Desk.dueRead("if " + TWELVE + "case 0" + CLOSED + ",we may act 1 unless " + TWELVE + "case 0" + CLOSED, 1);
        Desk.dueRead("if " + TWELVE + "case 0" + CLOSED + ",we may act 1;if " + TWELVE + "case 0" + CLOSED + ",we may act 1", 2);
        Desk.dueRead("if " + "not ".repeat(12) + "case 0 and " + "not ".repeat(12) + "case 1,we may act 1", 1);
        Desk.dueFaultAtMark("if " + "(case 0)and".repeat(20) + TWELVE + "^(case 1)");
    }

    private static void longRows() {
        for (String join : new String[] {"and", "or"}) {
            String row = "if case0" + (join + " case0").repeat(40) + ",we may act 1";
            Desk desk = Desk.reading(row);
            Desk.due("words of a row of 41", desk.words.look(0, 5), 1 + 41 * 2 + 40 + 4);
            Desk.due("asked in CASE 0", desk.words.ask(false, 1, 1, 0), 0);
            Desk.due("asked in CASE 1", desk.words.ask(false, 1, 1, 1), 4);
        }
        Desk.due("words of a row of 1", Desk.reading("if case 0,we may act 1").words.look(0, 5), 7);
    }

    private static void digits() {
        Desk.dueRead("if case 1,we may act 1 within 1", 1);
        Desk.dueRead("if case 01,we may act 01 within 01", 1);
        Desk.dueRead("if case 001,we may act 001 within 001", 1);
        Desk.dueFaultAtMark("if case ^0001,we may act 1");
        Desk.dueFaultAtMark("if case 1,we may act ^0001");
        Desk.dueFaultAtMark("we may act 1 within ^0001");
        Desk.dueFaultAtMark("we may act 1 within ^1000");
        Desk.dueFaultAtMark("we may act 1 within ^" + "1".repeat(380));
        // What grows beyond an int must not come back into its bounds.
        Desk.dueFaultAtMark("we may act ^4294967297");
        Desk.dueFaultAtMark("we may act 1 within ^18446744073709551617");
        Desk.dueFaultAtMark("if case^,we may act 1");
        Desk.dueFaultAtMark("we may act^;we may act 1");
        Desk.dueFaultAtMark("act ^may be done");
        Desk.dueFaultAtMark("we may act 1 within^;we may act 2");
    }

    private static void actsZeroToNine() {
        for (int act = 0; act <= 9; act++) {
            Desk desk = Desk.reading("we may act " + act);
            for (int asked = 0; asked <= 9; asked++) {
                Desk.due("act " + asked + " of " + act, desk.words.ask(false, 1, asked, 0), asked == act ? 4 : 0);
            }
        }
        Desk.dueFaultAtMark("we may act ^10");
        Desk.dueFaultAtMark("we may act ^010");
        Desk.dueFaultAtMark("we may act ^999");
        Desk.dueFaultAtMark("we may act ^-1");
    }

    private static void casesZeroToFive() {
        for (int k = 0; k <= 5; k++) {
            Desk desk = Desk.reading("if case " + k + ",we may act 1;we must act 1 unless case " + k);
            for (int cases = 0; cases < 64; cases++) {
                Desk.due("case " + k + " in CASE " + cases, desk.words.ask(true, 1, 1, cases), (cases >> k & 1) == 1 ? 4 : 1);
            }
        }
        Desk.dueFaultAtMark("if case ^6,we may act 1");
        Desk.dueFaultAtMark("if case ^06,we may act 1");
        Desk.dueFaultAtMark("we may act 1 unless case ^64");
        Desk.dueFaultAtMark("we may act 1 unless not(case 1 or case ^999)");
        Desk.dueFaultAtMark("we may act 1 unless case ^-1");
    }

    private static void daysOneToYear() {
        for (int days : new int[] {1, 2, 9, 10, 99, 100, 364, 365}) {
            Desk.due("look(0, 3) of " + days, Desk.reading("we may act 1 within " + days).words.look(0, 3), days);
        }
        for (String days : new String[] {"0", "00", "000", "366", "999", "-1"}) {
            Desk.dueFaultAtMark("we may act 1 within ^" + days);
            Desk.dueFaultAtMark("we may act 1 unless case 1 within ^" + days + ";we may act 2");
        }
    }

    private static void wordsGoOn() {
        Desk.dueRead("if not(case0and case1)or case2,act1and act2must not be done by we unless(case3)within9;act1may be done", 2);
        for (String grown : new String[] {"wemay act 1", "wea may act 1", "wez may act 1", "ywe may act 1", "actmust be done"}) {
            Desk.dueFault(grown, 0);
        }
        Desk.dueFaultAtMark("we ^mustnot act 1");
        Desk.dueFaultAtMark("if ^notcase 1,we may act 1");
        Desk.dueFaultAtMark("we may act 1 ^andact 2");
        // The signs around a to z and the great letters end a word, and are none.
        for (String sign : new String[] {"`", "{", "A", "Z", "@", "_", "'", "-", "\u00e1", "\u00df"}) {
            Desk.dueFaultAtMark("we^" + sign + " may act 1");
            Desk.dueFaultAtMark("^" + sign + "we may act 1");
        }
    }

    private static void blanksBetween() {
        String[] things = {"if", "not", "(", "case", "1", "or", "case", "2", ")", ",", "act", "1", "and", "act", "2", "must", "not",
            "be", "done", "by", "we", "unless", "case", "3", "within", "4", ";", "we", "may", "act", "5"};
        for (int i = 1; i < things.length; i++) {
            StringBuilder text = new StringBuilder(things[0]);
            for (int k = 1; k < things.length; k++) {
                text.append(k == i ? "     " : " ").append(things[k]);
            }
            Desk.dueRead(text.toString(), 2);
        }
        for (int other : new int[] {0, 9, 10, 11, 12, 13, 31, 33, 95, 127, 160, 255}) {
            Desk.dueFaultAtMark("we may^" + (char) other + "act 1");
            Desk.dueFaultAtMark("we may act^" + (char) other + "1");
        }
    }

    private static void blanksAround() {
        Desk.dueRead(" we may act 1", 1);
        Desk.dueRead("we may act 1 ", 1);
        Desk.dueRead(" ".repeat(388) + "we may act 1", 1);
        Desk.dueRead("we may act 1" + " ".repeat(388), 1);
        Desk.dueRead(" ".repeat(194) + "we may act 1" + " ".repeat(194), 1);
        Desk.dueFaultAtMark("^\twe may act 1");
        Desk.dueFaultAtMark("we may act 1^\n");
        Desk.dueFaultAtMark("we may act 1   ^\0");
    }

    private static void fullTape() {
        String text = "if case1" + "or case1".repeat(46) + "or  case 1" + ",we may act 19";
        String right = text.substring(0, text.length() - 1);
        Desk.due("the text's length", text.length(), 400);
        Desk.dueFault(text, 398);
        Desk.dueRead(right, 1);
        Desk.dueRead(right + " ", 1);
        Desk.dueFault("we may act 1" + " ".repeat(387) + ";", 400);
    }

    private static void usesUp() {
        Desk desk = new Desk();
        desk.tape("we may act 1");
        desk.words.letter();
        Desk.due("count(2) behind a right one", desk.words.count(2), 0);
        desk.refuse("we may act 1 we");
        Desk.due("count(2) behind a wrong one", desk.words.count(2), 0);
        Desk.dueOf("letter() of what is used up", desk.words::letter, "IllegalArgumentException");
        Desk.due("its fault", desk.words.fault(), 0);
    }

    private static void oldAndNew() {
        Desk desk = Desk.reading("act 1 and act 2 may be done by we;we may act 3");
        desk.words.part(0);
        desk.words.turn(0);
        desk.read("they must act 4");
        Desk.due("count(0)", desk.words.count(0), 1);
        Desk.due("count(1)", desk.words.count(1), 1);
        Desk.due("the old one", desk.words.ask(true, 2, 4, 0), 1);
        Desk.due("the old one asks nothing else", desk.words.ask(true, 1, 3, 0), 0);
        Desk.due("the new one", desk.written(), "they must act 4");
        desk.words.again();
        Desk.due("the old one", desk.written(), "they must act 4");
    }

    private static void wrongText() {
        for (String text : new String[] {"", " ", "we", "we may act 1;", "x", "\0", "we may act 1 within 0", "we may act 10"}) {
            new Desk().refuse(text);
        }
    }

    private static void whatWasStays() {
        for (String wrong : new String[] {"", "nonsense", "they must act 4;", "they must act 4;you may act 10"}) {
            Desk desk = Desk.reading("act 1 and act 2 may be done by we;we may act 3");
            desk.words.turn(0);
            desk.words.part(0);
            String before = desk.state();
            desk.refuse(wrong);
            // All but the fault, which tells of the latest letter().
            String want = before.replace("|2|3|0|1|2|-1|", "|2|3|0|1|2|" + desk.words.fault() + "|");
            Desk.due("the state behind \"" + wrong + "\"", desk.state(), want);
            Desk.due("the new one", desk.written(), "we may act 1; we may act 2; we may act 3");
            desk.words.again();
            Desk.due("the old one", desk.written(), "act 1 and act 2 may be done by we; we may act 3");
        }
    }

    private static void noLetterStays() {
        Desk desk = new Desk();
        desk.refuse("we may act 1;we may act");
        Desk.due("count(0)", desk.words.count(0), 0);
        Desk.due("count(1)", desk.words.count(1), 0);
        Desk.dueOf("cost(true)", () -> desk.words.cost(true), "IllegalStateException");
        Desk.dueOf("look(0, 0)", () -> desk.words.look(0, 0), "IllegalStateException");
        Desk.dueOf("write()", desk.words::write, "IllegalStateException");
    }
}
