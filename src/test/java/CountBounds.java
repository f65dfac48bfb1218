/** The boundary cases of counting, and of what holds for every call: promises 1 and 19. */
final class CountBounds {
    private CountBounds() {
    }

    static void all() {
        Bounds.bound(1, "A new object: nothing is counted, taped or wrong", CountBounds::newObject);
        Bounds.bound(1, "A new object knows nothing of another one", CountBounds::apart);
        Bounds.bound(19, "0 SENTENCES of the OLD LETTER, 1 of the NEW one (1, 8, 24)", CountBounds::sentences);
        Bounds.bound(19, "0 both without one", CountBounds::withoutOne);
        Bounds.bound(19, "2 bytes of the TAPE (0 to 400)", CountBounds::bytes);
        Bounds.bound(19, "3 LETTERS that were read (not the wrong ones)", CountBounds::letters);
        Bounds.bound(19, "4 TURNS that were done (by part, melt, turn and ease)", CountBounds::turns);
        Bounds.bound(19, "4 TURNS that were done: none that was not, or that threw", CountBounds::turnsNotDone);
        Bounds.bound(19, "4 since the latest one: a wrong one is none", CountBounds::sinceTheLatest);
        Bounds.bound(19, "NONE for another what", CountBounds::anotherWhat);
        Bounds.bound(19, "a call that throws changes nothing", CountBounds::throwingChangesNothing);
        Bounds.bound(19, "at most 512 calls: the 512th is answered as the first", CountBounds::lastCall);
    }

    private static void newObject() {
        Desk desk = new Desk();
        for (int what = 0; what <= 4; what++) {
            Desk.due("count(" + what + ")", desk.words.count(what), 0);
        }
        Desk.due("fault()", desk.words.fault(), -1);
        Desk.due("taped(0)", desk.words.taped(0), -1);
        Desk.due("end(0)", desk.words.end(0), true);
        Desk.due("feed", desk.words.feed(0, 0, 0, 0, 0), 20);
    }

    private static void apart() {
        Desk one = Desk.reading("act 1 may be done by we");
        one.words.turn(0);
        one.words.feed(1, 2, 3, 4, 5);
        Desk other = new Desk();
        Desk.due("the other's state", other.state(), "|0|0|0|0|0|-1|IllegalStateException|IllegalStateException");
        other.read("you must act 2");
        Desk.due("count(4) of the one", one.words.count(4), 1);
        Desk.due("count(2) of the one", one.words.count(2), 20);
        Desk.due("written of the one", one.written(), "we may act 1");
        Desk.due("written of the other", other.written(), "you must act 2");
    }

    private static void sentences() {
        Desk desk = Desk.reading("we may act 1");
        Desk.due("count(0) of one", desk.words.count(0), 1);
        Desk.due("count(1) of one", desk.words.count(1), 1);
        String three = "we may act 1 and act 2 and act 3";
        desk.read((three + ";").repeat(7) + three);
        for (int i = 7; i >= 0; i--) {
            desk.words.part(i);
        }
        Desk.due("count(0) of eight", desk.words.count(0), 8);
        Desk.due("count(1) of 24", desk.words.count(1), 24);
        desk.words.melt(0);
        Desk.due("count(1) behind melt", desk.words.count(1), 23);
        desk.words.plainest();
        Desk.due("count(1) of the plainest", desk.words.count(1), 8);
        Desk.due("count(0) of eight", desk.words.count(0), 8);
        desk.read("we may act 1;we may act 2");
        Desk.due("count(0) of the next one", desk.words.count(0), 2);
        Desk.due("count(1) of the next one", desk.words.count(1), 2);
    }

    private static void withoutOne() {
        Desk desk = new Desk();
        desk.feed("we may act 1;we may act 2");
        Desk.due("count(0)", desk.words.count(0), 0);
        Desk.due("count(1)", desk.words.count(1), 0);
        desk.refuse("we may act 1;we may act 2;");
        Desk.due("count(0) behind a wrong one", desk.words.count(0), 0);
        Desk.due("count(1) behind a wrong one", desk.words.count(1), 0);
    }

    private static void bytes() {
        Desk desk = new Desk();
        Desk.due("count(2) of none", desk.words.count(2), 0);
        for (int i = 0; i < 21; i++) {
            desk.words.feed(1, 2, 3, 4, 5);
        }
        Desk.due("count(2) of a full one", desk.words.count(2), 400);
        desk.words.end(399);
        Desk.due("count(2) of a cut one", desk.words.count(2), 399);
        desk.words.end(400);
        desk.words.end(-1);
        Desk.due("count(2) behind wrong ends", desk.words.count(2), 399);
        Desk.answer(desk.words::letter);
        Desk.due("count(2) of a used up one", desk.words.count(2), 0);
        desk.read("we may act 1");
        Desk.due("count(2) behind a right letter", desk.words.count(2), 0);
        desk.words.write();
        Desk.due("count(2) of a written one", desk.words.count(2), 12);
    }

    private static void letters() {
        Desk desk = new Desk();
        for (int n = 1; n <= 3; n++) {
            desk.refuse("we may act 10");
            desk.refuse("");
            desk.read("we may act 1");
            Desk.due("count(3)", desk.words.count(3), n);
            desk.words.again();
            desk.words.plainest();
            desk.words.write();
            Desk.due("count(3) behind other calls", desk.words.count(3), n);
        }
    }

    private static void turns() {
        Desk desk = Desk.reading("act 1 and act 2 may be done by we unless case 1");
        desk.words.part(0);
        Desk.due("count(4) behind part", desk.words.count(4), 1);
        desk.words.melt(0);
        Desk.due("count(4) behind melt", desk.words.count(4), 2);
        desk.words.turn(0);
        Desk.due("count(4) behind turn", desk.words.count(4), 3);
        desk.words.ease(0);
        Desk.due("count(4) behind ease", desk.words.count(4), 4);
        desk.words.again();
        Desk.due("count(4) behind again", desk.words.count(4), 4);
        desk.words.plainest();
        Desk.due("count(4) behind plainest", desk.words.count(4), 4);
    }

    private static void turnsNotDone() {
        Desk desk = Desk.reading("we may act 1;you may act 2");
        for (int i : new int[] {0, 1, 2, -1}) {
            Desk.answer(() -> desk.words.part(i));
            Desk.answer(() -> desk.words.melt(i));
            Desk.answer(() -> desk.words.turn(i));
            Desk.answer(() -> desk.words.ease(i));
        }
        Desk.due("count(4)", desk.words.count(4), 0);
    }

    private static void sinceTheLatest() {
        Desk desk = Desk.reading("we may act 1 and act 2");
        desk.words.part(0);
        desk.refuse("we may act 10");
        Desk.due("count(4) behind a wrong one", desk.words.count(4), 1);
        desk.words.melt(0);
        Desk.due("count(4) behind melt", desk.words.count(4), 2);
        desk.read("we may act 1 and act 2");
        Desk.due("count(4) behind a right one", desk.words.count(4), 0);
        desk.words.part(0);
        Desk.due("count(4) behind part", desk.words.count(4), 1);
    }

    private static void anotherWhat() {
        for (Desk desk : new Desk[] {new Desk(), Desk.reading("we may act 1")}) {
            for (int what : new int[] {-1, 5, 6, 9, Integer.MIN_VALUE, Integer.MAX_VALUE}) {
                Desk.due("count(" + what + ")", desk.words.count(what), -1);
            }
        }
    }

    private static void throwingChangesNothing() {
        Desk none = new Desk();
        none.feed("abc");
        String before = none.state();
        throwAll(none, "IllegalStateException");
        Desk.dueOf("write()", none.words::write, "IllegalStateException");
        Desk.due("the state without a letter", none.state(), before);
        Desk desk = Desk.reading("act 1 and act 2 may be done by we unless case 1;we may act 3");
        desk.words.turn(0);
        desk.tape("abc");
        before = desk.state();
        throwAll(desk, "IndexOutOfBoundsException");
        Desk.dueOf("look(0, 9)", () -> desk.words.look(0, 9), "NoSuchElementException");
        Desk.due("the state of a letter", desk.state(), before);
        Desk.due("written", desk.written(), "we may act 1 and act 2 unless case 1; we may act 3");
    }

    private static void throwAll(Desk desk, String name) {
        for (int i : new int[] {-1, 2, 24}) {
            Desk.dueOf("part(" + i + ")", () -> desk.words.part(i), name);
            Desk.dueOf("melt(" + i + ")", () -> desk.words.melt(i), name);
            Desk.dueOf("turn(" + i + ")", () -> desk.words.turn(i), name);
            Desk.dueOf("ease(" + i + ")", () -> desk.words.ease(i), name);
            Desk.dueOf("look(" + i + ", 0)", () -> desk.words.look(i, 0), name);
        }
    }

    private static void lastCall() {
        Desk desk = Desk.reading("we may act 1 and act 2 and act 3;you may act 4");
        while (desk.words.callsLeft() > 8) {
            Desk.due("part(0)", desk.words.part(0), true);
            Desk.due("melt(0)", desk.words.melt(0), true);
            Desk.due("melt(0)", desk.words.melt(0), true);
        }
        int turns = desk.words.count(4);
        Desk.due("the turns come in threes", turns % 3, 0);
        while (desk.words.callsLeft() > 1) {
            Desk.due("same()", desk.words.same(), true);
        }
        Desk.due("the 512th call", desk.words.cost(false), 15 + 9);
    }
}
