import java.util.ArrayList;
import java.util.NoSuchElementException;

/** A turner of offices' letters into plain ones. */
public final class PlainWords {
    public static final int NONE = -1;

    private static final int MOST_DIGITS = 3;
    private static final int MOST_DEEP = 12;
    /** No condition is built as deep as this: each ( makes an or and an and at most, each EASE a not and an and. */
    private static final int DEEPEST = 40;

    private final Tape tape;
    private final Reader reader;
    private final Writer writer;
    private final Letter oldLetter;
    private final Letter newLetter;
    private int wrongByte;
    private int lettersRead;
    private int turnsDone;

    public PlainWords() {
        tape = new Tape();
        reader = new Reader();
        writer = new Writer();
        oldLetter = new Letter();
        newLetter = new Letter();
        wrongByte = NONE;
        lettersRead = 0;
        turnsDone = 0;
    }

    public int feed(int a, int b, int c, int d, int e) {
        if (tape.size + 20 > Tape.ROOM) {
            return NONE;
        }
        tape.addNumber(a);
        tape.addNumber(b);
        tape.addNumber(c);
        tape.addNumber(d);
        tape.addNumber(e);
        return tape.size;
    }

    public boolean end(int n) {
        return tape.cut(n);
    }

    public int letter() throws IllegalArgumentException {
        boolean right = reader.read(tape);
        tape.cut(0);
        wrongByte = right ? NONE : reader.stoppedAt();
        if (!right) {
            throw new IllegalArgumentException("the text is wrong");
        }
        oldLetter.become(reader.draft);
        newLetter.become(reader.draft);
        lettersRead++;
        turnsDone = 0;
        return oldLetter.size();
    }

    public int fault() {
        return wrongByte;
    }

    public boolean part(int sentence) throws IllegalStateException, IndexOutOfBoundsException {
        needSentence(sentence);
        return tallied(newLetter.partAt(sentence));
    }

    public boolean melt(int sentence) throws IllegalStateException, IndexOutOfBoundsException {
        needSentence(sentence);
        return tallied(newLetter.meltAt(sentence));
    }

    public boolean turn(int sentence) throws IllegalStateException, IndexOutOfBoundsException {
        needSentence(sentence);
        return tallied(newLetter.turnAt(sentence));
    }

    public boolean ease(int sentence) throws IllegalStateException, IndexOutOfBoundsException {
        needSentence(sentence);
        return tallied(newLetter.easeAt(sentence));
    }

    public int plainest() throws IllegalStateException {
        needLetter();
        newLetter.becomePlainest(oldLetter);
        return newLetter.price();
    }

    public void again() throws IllegalStateException {
        needLetter();
        newLetter.become(oldLetter);
    }

    public int cost(boolean old) throws IllegalStateException {
        needLetter();
        return chosen(old).price();
    }

    public int look(int sentence, int what)
            throws IllegalStateException, IndexOutOfBoundsException, NoSuchElementException {
        needSentence(sentence);
        if (what < 0 || what > 8) {
            throw new NoSuchElementException("there is no such thing to look at");
        }
        return newLetter.at(sentence).trait(what);
    }

    public boolean same() throws IllegalStateException {
        needLetter();
        return oldLetter.isWithin(newLetter) && newLetter.isWithin(oldLetter);
    }

    public int write() throws IllegalStateException {
        needLetter();
        writer.writeLetter(newLetter);
        if (writer.size > Tape.ROOM) {
            return NONE;
        }
        tape.become(writer.bytes, writer.size);
        return tape.size;
    }

    public int taped(int i) {
        return tape.at(i);
    }

    public int ask(boolean old, int who, int act, int cases) throws IllegalStateException {
        needLetter();
        return chosen(old).modesAsked(who, act, cases);
    }

    public int days(int who, int act, int cases) throws IllegalStateException {
        needLetter();
        return newLetter.leastDays(who, act, cases);
    }

    public int count(int what) {
        switch (what) {
            case 0:
                return oldLetter.size();
            case 1:
                return newLetter.size();
            case 2:
                return tape.size;
            case 3:
                return lettersRead;
            case 4:
                return turnsDone;
            default:
                return NONE;
        }
    }

    private void needLetter() {
        if (lettersRead == 0) {
            throw new IllegalStateException("there is no letter");
        }
    }

    private void needSentence(int sentence) {
        needLetter();
        if (sentence < 0 || sentence >= newLetter.size()) {
            throw new IndexOutOfBoundsException("there is no such sentence");
        }
    }

    private Letter chosen(boolean old) {
        return old ? oldLetter : newLetter;
    }

    private boolean tallied(boolean changed) {
        if (changed) {
            turnsDone++;
        }
        return changed;
    }

    /** The bytes that came in, or that were written. */
    private static final class Tape {
        static final int ROOM = 400;

        final byte[] bytes;
        int size;

        Tape() {
            bytes = new byte[ROOM];
            size = 0;
        }

        int at(int i) {
            return i >= 0 && i < size && i < bytes.length ? bytes[i] & 255 : NONE;
        }

        void addNumber(int number) {
            for (int shift = 24; shift >= 0; shift -= 8) {
                if (size < bytes.length) {
                    bytes[size] = (byte) (number >> shift);
                    size++;
                }
            }
        }

        boolean cut(int length) {
            if (length < 0 || length > size) {
                return false;
            }
            size = length;
            return true;
        }

        void become(byte[] from, int length) {
            if (length >= 0 && length <= from.length && length <= bytes.length) {
                System.arraycopy(from, 0, bytes, 0, length);
                size = length;
            }
        }
    }

    /** The things that a text is made of: the words have the lowest numbers. */
    private static final class Thing {
        static final int YOU = 0;
        static final int WE = 1;
        static final int THEY = 2;
        static final int MUST = 3;
        static final int NOT = 4;
        static final int MAY = 5;
        static final int ACT = 6;
        static final int AND = 7;
        static final int OR = 8;
        static final int BE = 9;
        static final int DONE = 10;
        static final int BY = 11;
        static final int IF = 12;
        static final int UNLESS = 13;
        static final int WITHIN = 14;
        static final int CASE = 15;
        static final int WORDS = 16;
        static final int NUMBER = 17;
        static final int OPEN = 18;
        static final int CLOSE = 19;
        static final int COMMA = 20;
        static final int SEMICOLON = 21;
        static final int TEXT_END = 22;
        static final int UNKNOWN = 23;

        static String text(int word) {
            switch (word) {
                case YOU: return "you";
                case WE: return "we";
                case THEY: return "they";
                case MUST: return "must";
                case NOT: return "not";
                case MAY: return "may";
                case ACT: return "act";
                case AND: return "and";
                case OR: return "or";
                case BE: return "be";
                case DONE: return "done";
                case BY: return "by";
                case IF: return "if";
                case UNLESS: return "unless";
                case WITHIN: return "within";
                case CASE: return "case";
                default: return "";
            }
        }

        static int sign(int first) {
            switch (first) {
                case '(': return OPEN;
                case ')': return CLOSE;
                case ',': return COMMA;
                case ';': return SEMICOLON;
                default: return UNKNOWN;
            }
        }
    }

    /** A condition, never changed once made; one and within another, or an or within another, is one row. */
    private static final class Cond {
        // Numbered by how tight they bind: what binds looser than what is around it stands in ( and ).
        static final int OR = 0;
        static final int AND = 1;
        static final int NOT = 2;
        static final int CASE = 3;

        static final int HIGHEST_CASE = 5;

        // Bit k of row n tells whether case n is so in the CASE k.
        private static final long[] TRUTHS = {
            0xAAAAAAAAAAAAAAAAL, 0xCCCCCCCCCCCCCCCCL, 0xF0F0F0F0F0F0F0F0L,
            0xFF00FF00FF00FF00L, 0xFFFF0000FFFF0000L, 0xFFFFFFFF00000000L
        };

        final int kind;
        final int number;
        final Cond[] pieces;
        final long truth;
        final int words;
        final int nots;
        final boolean notNot;

        private Cond(int number) {
            this.kind = CASE;
            this.number = number;
            this.pieces = new Cond[0];
            this.truth = number >= 0 && number < TRUTHS.length ? TRUTHS[number] : 0L;
            this.words = 2;
            this.nots = 0;
            this.notNot = false;
        }

        private Cond(int kind, Cond[] pieces) {
            long all = -1L;
            long any = 0L;
            int wordsWithin = 0;
            int notsWithin = 0;
            boolean twice = false;
            for (Cond piece : pieces) {
                all &= piece.truth;
                any |= piece.truth;
                wordsWithin += piece.words;
                notsWithin += piece.nots;
                twice = twice || piece.notNot || kind == NOT && piece.kind == NOT;
            }
            this.kind = kind;
            this.number = NONE;
            this.pieces = pieces;
            this.truth = kind == NOT ? ~any : kind == AND ? all : any;
            this.words = kind == NOT ? wordsWithin + 1 : wordsWithin + pieces.length - 1;
            this.nots = kind == NOT ? notsWithin + 1 : notsWithin;
            this.notNot = twice;
        }

        static Cond ofCase(int number) {
            return number == NONE ? null : new Cond(number);
        }

        static Cond negated(Cond inner) {
            if (inner == null) {
                return null;
            }
            Cond[] row = {inner};
            return new Cond(NOT, row);
        }

        static Cond joined(int kind, Cond ahead, Cond behind) {
            if (ahead == null || behind == null) {
                return null;
            }
            Cond[] first = ahead.rowOf(kind);
            Cond[] second = behind.rowOf(kind);
            Cond[] row = new Cond[first.length + second.length];
            for (int i = 0; i < row.length; i++) {
                row[i] = i < first.length ? first[i] : second[i - first.length];
            }
            return new Cond(kind, row);
        }

        private Cond[] rowOf(int rowKind) {
            if (kind == rowKind) {
                return pieces;
            }
            Cond[] alone = {this};
            return alone;
        }

        /** Without any not not; a row stays a row, so one way through is enough. */
        private static Cond eased(Cond cond, int depth) {
            if (!cond.notNot || cond.pieces.length == 0 || depth > DEEPEST) {
                return cond;
            }
            Cond first = cond.pieces[0];
            if (cond.kind == NOT) {
                boolean twice = first.kind == NOT && first.pieces.length > 0;
                return twice ? eased(first.pieces[0], depth + 1) : negated(eased(first, depth + 1));
            }
            Cond row = eased(first, depth + 1);
            for (int i = 1; i < cond.pieces.length; i++) {
                row = joined(cond.kind, row, eased(cond.pieces[i], depth + 1));
            }
            return row;
        }

        /** Whether both are written alike: to be so, they must be built alike. */
        private static boolean alike(Cond one, Cond other, int depth) {
            if (one == null || other == null) {
                return one == null && other == null;
            }
            if (one.kind != other.kind || one.number != other.number
                    || one.pieces.length != other.pieces.length || depth > DEEPEST) {
                return false;
            }
            for (int i = 0; i < one.pieces.length; i++) {
                if (!alike(one.pieces[i], other.pieces[i], depth + 1)) {
                    return false;
                }
            }
            return true;
        }
    }

    /** A sentence, never changed once made; without an if or an unless that one is null. */
    private static final class Sentence {
        static final int MOST_ACTS = 3;
        static final int HIGHEST_ACT = 9;
        static final int MOST_DAYS = 365;
        static final int NOBODY = 3;
        static final int MUST = 0;
        static final int MUST_NOT = 1;
        static final int MAY = 2;

        private static final int WORDS_FOR_FREE = 10;

        final int who;
        final int mode;
        final int limit;
        final boolean passive;
        final int[] acts;
        final Cond when;
        final Cond unless;

        Sentence(int who, int mode, int limit, boolean passive, int[] acts, Cond when, Cond unless) {
            this.who = who;
            this.mode = mode;
            this.limit = limit;
            this.passive = passive;
            this.acts = acts;
            this.when = when;
            this.unless = unless;
        }

        Sentence withActs(int[] others) {
            return new Sentence(who, mode, limit, passive, others, when, unless);
        }

        Sentence withAct(int i) {
            int[] one = {i >= 0 && i < acts.length ? acts[i] : NONE};
            return withActs(one);
        }

        boolean canTurn() {
            return passive && who != NOBODY;
        }

        Sentence turned() {
            return new Sentence(who, mode, limit, false, acts, when, unless);
        }

        boolean canEase() {
            return unless != null || when != null && when.notNot;
        }

        Sentence eased() {
            Cond whole = when;
            if (unless != null) {
                Cond not = Cond.negated(unless);
                whole = when == null ? not : Cond.joined(Cond.AND, when, not);
            }
            Cond easy = whole == null ? null : Cond.eased(whole, 0);
            return new Sentence(who, mode, limit, passive, acts, easy, null);
        }

        boolean canMelt(Sentence next) {
            if (acts.length + next.acts.length > MOST_ACTS || !asksLike(next) || passive != next.passive) {
                return false;
            }
            for (int act : next.acts) {
                if (names(act)) {
                    return false;
                }
            }
            return Cond.alike(when, next.when, 0) && Cond.alike(unless, next.unless, 0);
        }

        Sentence melted(Sentence next) {
            int[] both = new int[acts.length + next.acts.length];
            System.arraycopy(acts, 0, both, 0, acts.length);
            System.arraycopy(next.acts, 0, both, acts.length, next.acts.length);
            return withActs(both);
        }

        boolean asksLike(Sentence other) {
            return who == other.who && mode == other.mode && limit == other.limit;
        }

        boolean names(int act) {
            for (int own : acts) {
                if (own == act) {
                    return true;
                }
            }
            return false;
        }

        /** The CASES in which it counts, a bit for each. */
        long truth() {
            long so = when == null ? -1L : when.truth;
            return unless == null ? so : so & ~unless.truth;
        }

        boolean asks(int whom, int act, int cases) {
            return who == whom && names(act) && (truth() >>> (cases & 63) & 1L) != 0L;
        }

        int words(int actsTold) {
            int sum = 3 * actsTold - 1;
            sum += mode == MUST_NOT ? 2 : 1;
            sum += passive ? 2 : 0;
            sum += who == NOBODY ? 0 : passive ? 2 : 1;
            sum += when == null ? 0 : 1 + when.words;
            sum += unless == null ? 0 : 1 + unless.words;
            return limit == NONE ? sum : sum + 2;
        }

        int nots() {
            return (when == null ? 0 : when.nots) + (unless == null ? 0 : unless.nots);
        }

        /** Its cost, if it told so many acts. */
        int price(int actsTold) {
            int words = words(actsTold);
            return words + (passive ? 3 : 0) + 2 * nots() + (unless == null ? 0 : 4)
                    + 2 * Math.max(0, words - WORDS_FOR_FREE) + 5;
        }

        int trait(int what) {
            switch (what) {
                case 0: return acts.length;
                case 1: return who;
                case 2: return mode;
                case 3: return limit;
                case 4: return passive ? 1 : 0;
                case 5: return words(acts.length);
                case 6: return price(acts.length);
                case 7: return nots();
                case 8: return unless == null ? 0 : 1;
                default: return NONE;
            }
        }
    }

    /** A row of sentences. */
    private static final class Letter {
        static final int MOST_READ = 8;
        static final int MOST = 24;

        private final ArrayList<Sentence> sentences;

        Letter() {
            sentences = new ArrayList<>();
        }

        int size() {
            return sentences.size();
        }

        /** Asked only for what is there. */
        Sentence at(int i) {
            return sentences.get(i);
        }

        void clear() {
            sentences.clear();
        }

        void add(Sentence sentence) {
            if (sentences.size() < MOST) {
                sentences.add(sentence);
            }
        }

        void become(Letter other) {
            sentences.clear();
            for (int i = 0; i < other.size(); i++) {
                add(other.at(i));
            }
        }

        boolean partAt(int i) {
            Sentence whole = at(i);
            int pieces = whole.acts.length;
            if (pieces < 2 || sentences.size() - 1 + pieces > MOST) {
                return false;
            }
            sentences.set(i, whole.withAct(0));
            for (int k = 1; k < pieces; k++) {
                sentences.add(i + k, whole.withAct(k));
            }
            return true;
        }

        boolean meltAt(int i) {
            if (i + 1 >= sentences.size() || !at(i).canMelt(at(i + 1))) {
                return false;
            }
            sentences.set(i, at(i).melted(at(i + 1)));
            sentences.remove(i + 1);
            return true;
        }

        boolean turnAt(int i) {
            boolean can = at(i).canTurn();
            if (can) {
                sentences.set(i, at(i).turned());
            }
            return can;
        }

        boolean easeAt(int i) {
            boolean can = at(i).canEase();
            if (can) {
                sentences.set(i, at(i).eased());
            }
            return can;
        }

        int price() {
            int sum = 0;
            for (int i = 0; i < sentences.size(); i++) {
                Sentence sentence = at(i);
                sum += sentence.price(sentence.acts.length);
            }
            return sum;
        }

        /** What a sentence costs has nothing to do with the others, so each is made plainest for itself. */
        void becomePlainest(Letter old) {
            sentences.clear();
            for (int i = 0; i < old.size(); i++) {
                addPlainest(old.at(i));
            }
        }

        /** Tries all eight ways; of those as good the one stays that does PART latest, then TURN. */
        private void addPlainest(Sentence old) {
            Sentence eased = old.canEase() ? old.eased() : old;
            Sentence best = old;
            int bestWay = 0;
            int bestPrice = old.price(old.acts.length);
            for (int way = 1; way < 8; way++) {
                boolean parting = (way & 4) != 0;
                boolean turning = (way & 2) != 0;
                boolean easing = (way & 1) != 0;
                if (parting && old.acts.length < 2 || turning && !old.canTurn() || easing && !old.canEase()) {
                    continue;
                }
                Sentence one = easing ? eased : old;
                one = turning ? one.turned() : one;
                int price = parting ? old.acts.length * one.price(1) : one.price(one.acts.length);
                if (price < bestPrice || price == bestPrice && Integer.bitCount(way) < Integer.bitCount(bestWay)) {
                    best = one;
                    bestWay = way;
                    bestPrice = price;
                }
            }
            addWhole(best, (bestWay & 4) != 0);
        }

        private void addWhole(Sentence sentence, boolean parting) {
            if (!parting) {
                add(sentence);
                return;
            }
            for (int k = 0; k < sentence.acts.length; k++) {
                add(sentence.withAct(k));
            }
        }

        /** Whether all that this asks for the other asks for in the same CASES. */
        boolean isWithin(Letter other) {
            for (int i = 0; i < sentences.size(); i++) {
                Sentence sentence = at(i);
                for (int act : sentence.acts) {
                    if ((casesAsking(sentence, act) & ~other.casesAsking(sentence, act)) != 0L) {
                        return false;
                    }
                }
            }
            return true;
        }

        /** The CASES in which an act is asked for as the sentence asks, a bit for each. */
        private long casesAsking(Sentence like, int act) {
            long asking = 0L;
            for (int i = 0; i < sentences.size(); i++) {
                Sentence sentence = at(i);
                if (sentence.asksLike(like) && sentence.names(act)) {
                    asking |= sentence.truth();
                }
            }
            return asking;
        }

        int modesAsked(int who, int act, int cases) {
            int modes = 0;
            for (int i = 0; i < sentences.size(); i++) {
                Sentence sentence = at(i);
                if (sentence.asks(who, act, cases)) {
                    modes |= 1 << sentence.mode;
                }
            }
            return modes;
        }

        int leastDays(int who, int act, int cases) {
            int least = NONE;
            for (int i = 0; i < sentences.size(); i++) {
                Sentence sentence = at(i);
                if (sentence.mode == Sentence.MUST && sentence.limit != NONE && sentence.asks(who, act, cases)) {
                    least = least == NONE ? sentence.limit : Math.min(least, sentence.limit);
                }
            }
            return least;
        }
    }

    /** The things of a text, taken one behind the other; behind the last one stands the text's end. */
    private static final class Things {
        private final int[] kinds;
        private final int[] begins;
        private final int[] values;
        private int size;
        private int textLength;
        private int at;

        Things() {
            kinds = new int[Tape.ROOM];
            begins = new int[Tape.ROOM];
            values = new int[Tape.ROOM];
            size = 0;
            textLength = 0;
            at = 0;
        }

        boolean sees(int wanted) {
            return at >= 0 && at < size ? kinds[at] == wanted : wanted == Thing.TEXT_END;
        }

        boolean take(int wanted) {
            boolean there = at >= 0 && at < size && kinds[at] == wanted;
            if (there) {
                at++;
            }
            return there;
        }

        int takeNumber(int least, int most) {
            int value = value();
            if (value < least || value > most) {
                return NONE;
            }
            at++;
            return value;
        }

        /** What a number says; NONE, which is out of all bounds, for one of too many digits and for all else. */
        int value() {
            return at >= 0 && at < size ? values[at] : NONE;
        }

        int begin() {
            return at >= 0 && at < size ? begins[at] : textLength;
        }

        void split(Tape tape) {
            size = 0;
            at = 0;
            textLength = tape.size;
            int from = 0;
            for (int i = 0; i < Tape.ROOM && from < tape.size; i++) {
                int first = tape.at(from);
                int behind = from + 1;
                if (isLetter(first)) {
                    behind = wordEnd(tape, from);
                    add(wordIn(tape, from, behind), from, NONE);
                } else if (isDigit(first)) {
                    behind = numberEnd(tape, from);
                    add(Thing.NUMBER, from, numberIn(tape, from, behind));
                } else if (first != ' ') {
                    add(Thing.sign(first), from, NONE);
                }
                from = behind;
            }
        }

        private void add(int kind, int begin, int value) {
            if (size < kinds.length) {
                kinds[size] = kind;
                begins[size] = begin;
                values[size] = value;
                size++;
            }
        }

        private static int wordEnd(Tape tape, int from) {
            int behind = from + 1;
            while (behind < tape.size && isLetter(tape.at(behind))) {
                behind++;
            }
            return behind;
        }

        private static int wordIn(Tape tape, int from, int behind) {
            for (int word = 0; word < Thing.WORDS; word++) {
                if (stands(Thing.text(word), tape, from, behind)) {
                    return word;
                }
            }
            return Thing.UNKNOWN;
        }

        private static boolean stands(String word, Tape tape, int from, int behind) {
            if (word.length() != behind - from) {
                return false;
            }
            for (int i = 0; i < word.length(); i++) {
                if (word.charAt(i) != tape.at(from + i)) {
                    return false;
                }
            }
            return true;
        }

        private static int numberEnd(Tape tape, int from) {
            int behind = from + 1;
            while (behind < tape.size && isDigit(tape.at(behind))) {
                behind++;
            }
            return behind;
        }

        private static int numberIn(Tape tape, int from, int behind) {
            if (behind - from > MOST_DIGITS) {
                return NONE;
            }
            int number = 0;
            for (int i = from; i < behind; i++) {
                number = 10 * number + tape.at(i) - '0';
            }
            return number;
        }

        private static boolean isLetter(int sign) {
            return sign >= 'a' && sign <= 'z';
        }

        private static boolean isDigit(int sign) {
            return sign >= '0' && sign <= '9';
        }
    }

    /** Reads the things of the tape by the grammar; where one cannot stand, it stays at that one. */
    private static final class Reader {
        final Letter draft;
        private final Things things;
        private int who;
        private int mode;
        private final int[] acts;
        private int actsRead;

        Reader() {
            draft = new Letter();
            things = new Things();
            acts = new int[Sentence.MOST_ACTS];
            who = Sentence.NOBODY;
            mode = Sentence.MUST;
            actsRead = 0;
        }

        /** Whether the text is right: then the draft is what it says. */
        boolean read(Tape tape) {
            draft.clear();
            things.split(tape);
            boolean right = readSentence();
            for (int i = 1; i < Letter.MOST_READ && right && things.take(Thing.SEMICOLON); i++) {
                right = readSentence();
            }
            return right && things.sees(Thing.TEXT_END);
        }

        int stoppedAt() {
            return things.begin();
        }

        private boolean readSentence() {
            Cond when = null;
            if (things.take(Thing.IF)) {
                when = readCond(0);
                if (when == null || !things.take(Thing.COMMA)) {
                    return false;
                }
            }
            boolean passive = things.sees(Thing.ACT);
            if (!(passive ? readPassive() : readActive())) {
                return false;
            }
            Cond unless = null;
            if (things.take(Thing.UNLESS)) {
                unless = readCond(0);
                if (unless == null) {
                    return false;
                }
            }
            int limit = NONE;
            if (things.take(Thing.WITHIN)) {
                limit = things.takeNumber(1, Sentence.MOST_DAYS);
                if (limit == NONE) {
                    return false;
                }
            }
            draft.add(new Sentence(who, mode, limit, passive, actsTold(), when, unless));
            return true;
        }

        private boolean readActive() {
            return readWho() && readMode() && readActs();
        }

        private boolean readPassive() {
            if (!readActs() || !readMode() || !things.take(Thing.BE) || !things.take(Thing.DONE)) {
                return false;
            }
            who = Sentence.NOBODY;
            return !things.take(Thing.BY) || readWho();
        }

        private boolean readWho() {
            if (things.take(Thing.YOU)) {
                who = Thing.YOU;
            } else if (things.take(Thing.WE)) {
                who = Thing.WE;
            } else {
                who = Thing.THEY;
                return things.take(Thing.THEY);
            }
            return true;
        }

        private boolean readMode() {
            if (things.take(Thing.MAY)) {
                mode = Sentence.MAY;
                return true;
            }
            if (!things.take(Thing.MUST)) {
                return false;
            }
            mode = things.take(Thing.NOT) ? Sentence.MUST_NOT : Sentence.MUST;
            return true;
        }

        /** An and behind the last act that may be told is left: nothing that comes next can begin with it. */
        private boolean readActs() {
            actsRead = 0;
            boolean right = readAct();
            for (int i = 1; i < Sentence.MOST_ACTS && right && things.take(Thing.AND); i++) {
                right = readAct();
            }
            return right;
        }

        private boolean readAct() {
            if (!things.take(Thing.ACT) || isTold(things.value())) {
                return false;
            }
            int act = things.takeNumber(0, Sentence.HIGHEST_ACT);
            if (act == NONE || actsRead >= acts.length) {
                return false;
            }
            acts[actsRead] = act;
            actsRead++;
            return true;
        }

        private boolean isTold(int act) {
            for (int i = 0; i < actsRead && i < acts.length; i++) {
                if (acts[i] == act) {
                    return true;
                }
            }
            return false;
        }

        private int[] actsTold() {
            int[] told = new int[Math.max(0, Math.min(actsRead, acts.length))];
            System.arraycopy(acts, 0, told, 0, told.length);
            return told;
        }

        /** The condition that comes; null where it is wrong. */
        private Cond readCond(int depth) {
            Cond row = readAll(depth);
            for (int i = 0; i < Tape.ROOM && row != null && things.take(Thing.OR); i++) {
                row = Cond.joined(Cond.OR, row, readAll(depth));
            }
            return row;
        }

        private Cond readAll(int depth) {
            Cond row = readItem(depth);
            for (int i = 0; i < Tape.ROOM && row != null && things.take(Thing.AND); i++) {
                row = Cond.joined(Cond.AND, row, readItem(depth));
            }
            return row;
        }

        private Cond readItem(int depth) {
            if (things.take(Thing.CASE)) {
                return Cond.ofCase(things.takeNumber(0, Cond.HIGHEST_CASE));
            }
            if (depth >= MOST_DEEP) {
                return null;
            }
            if (things.take(Thing.NOT)) {
                return Cond.negated(readItem(depth + 1));
            }
            if (!things.take(Thing.OPEN)) {
                return null;
            }
            Cond inner = readCond(depth + 1);
            return inner != null && things.take(Thing.CLOSE) ? inner : null;
        }
    }

    /** Writes a letter; what is beyond the tape's room is only counted. */
    private static final class Writer {
        final byte[] bytes;
        int size;
        private boolean behindOpen;

        Writer() {
            bytes = new byte[Tape.ROOM];
            size = 0;
            behindOpen = false;
        }

        void writeLetter(Letter letter) {
            size = 0;
            behindOpen = false;
            for (int i = 0; i < letter.size(); i++) {
                if (i > 0) {
                    put(';');
                }
                writeSentence(letter.at(i));
            }
        }

        private void writeSentence(Sentence sentence) {
            if (sentence.when != null) {
                writeWord(Thing.IF);
                writeCond(sentence.when, 0);
                put(',');
            }
            if (sentence.passive) {
                writeActs(sentence.acts);
                writeMode(sentence.mode);
                writeDone(sentence.who);
            } else {
                writeWord(sentence.who);
                writeMode(sentence.mode);
                writeActs(sentence.acts);
            }
            if (sentence.unless != null) {
                writeWord(Thing.UNLESS);
                writeCond(sentence.unless, 0);
            }
            if (sentence.limit != NONE) {
                writeWord(Thing.WITHIN);
                writeNumber(sentence.limit);
            }
        }

        private void writeDone(int who) {
            writeWord(Thing.BE);
            writeWord(Thing.DONE);
            if (who != Sentence.NOBODY) {
                writeWord(Thing.BY);
                writeWord(who);
            }
        }

        private void writeMode(int mode) {
            writeWord(mode == Sentence.MAY ? Thing.MAY : Thing.MUST);
            if (mode == Sentence.MUST_NOT) {
                writeWord(Thing.NOT);
            }
        }

        private void writeActs(int[] acts) {
            for (int i = 0; i < acts.length; i++) {
                if (i > 0) {
                    writeWord(Thing.AND);
                }
                writeWord(Thing.ACT);
                writeNumber(acts[i]);
            }
        }

        private void writeCond(Cond cond, int depth) {
            if (depth > DEEPEST) {
                return;
            }
            if (cond.kind == Cond.CASE) {
                writeWord(Thing.CASE);
                writeNumber(cond.number);
            } else if (cond.kind == Cond.NOT) {
                writeWord(Thing.NOT);
            }
            for (int i = 0; i < cond.pieces.length; i++) {
                if (i > 0) {
                    writeWord(cond.kind == Cond.AND ? Thing.AND : Thing.OR);
                }
                writePiece(cond.pieces[i], cond.kind, depth);
            }
        }

        private void writePiece(Cond piece, int around, int depth) {
            boolean looser = piece.kind < around;
            if (looser) {
                blank();
                put('(');
                behindOpen = true;
            }
            writeCond(piece, depth + 1);
            if (looser) {
                put(')');
            }
        }

        private void writeWord(int word) {
            blank();
            String text = Thing.text(word);
            for (int i = 0; i < text.length(); i++) {
                put(text.charAt(i));
            }
        }

        private void writeNumber(int number) {
            blank();
            if (number >= 100) {
                put('0' + number / 100);
            }
            if (number >= 10) {
                put('0' + number / 10 % 10);
            }
            put('0' + number % 10);
        }

        private void blank() {
            if (size > 0 && !behindOpen) {
                put(' ');
            }
            behindOpen = false;
        }

        private void put(int sign) {
            if (size < bytes.length) {
                bytes[size] = (byte) sign;
            }
            size++;
        }
    }
}
