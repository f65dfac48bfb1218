import java.util.ArrayDeque;
import java.util.ArrayList;
import java.util.Arrays;
import java.util.Deque;
import java.util.HashSet;
import java.util.List;
import java.util.Objects;
import java.util.Set;
import java.util.regex.Matcher;
import java.util.regex.Pattern;

/**
 * The document told a second time, otherwise: a machine of states reads, conditions are rows of operands with the
 * operators behind them, costs are counted in the written text, and plainest tries all ways of the whole letter.
 */
final class Model {
    static final int NONE = -1;
    private static final Pattern THING = Pattern.compile("[a-z]+|[0-9]+|[^ ]", Pattern.DOTALL);
    private static final List<String> WHO = Arrays.asList("you", "we", "they");

    /** One sentence; a condition is a row such as [1, 2, not, and], or null. */
    static final class Line {
        List<String> when;
        List<String> unless;
        List<Integer> acts = new ArrayList<>();
        int who = 3;
        int mode;
        int limit = NONE;
        boolean passive;

        Line copy() {
            Line line = new Line();
            line.when = when;
            line.unless = unless;
            line.acts = new ArrayList<>(acts);
            line.who = who;
            line.mode = mode;
            line.limit = limit;
            line.passive = passive;
            return line;
        }

        String text() {
            String doing = acts.stream().map(a -> "act " + a).reduce((a, b) -> a + " and " + b).get();
            String modal = new String[] {"must", "must not", "may"}[mode];
            String body = passive ? doing + " " + modal + " be done" + (who < 3 ? " by " + WHO.get(who) : "")
                    : WHO.get(who) + " " + modal + " " + doing;
            return (when == null ? "" : "if " + condText(when) + ", ") + body
                    + (unless == null ? "" : " unless " + condText(unless)) + (limit == NONE ? "" : " within " + limit);
        }

        int words() {
            Matcher m = Pattern.compile("[a-z0-9]+").matcher(text());
            int n = 0;
            while (m.find()) {
                n++;
            }
            return n;
        }

        int nots() {
            return nots(when) + nots(unless);
        }

        private static int nots(List<String> cond) {
            return cond == null ? 0 : (int) cond.stream().filter("not"::equals).count();
        }

        int cost() {
            int words = words();
            return words + (passive ? 3 : 0) + 2 * nots() + (unless != null ? 4 : 0)
                    + (words > 10 ? 2 * (words - 10) : 0) + 5;
        }

        boolean counts(int cases) {
            return (when == null || holds(when, cases)) && (unless == null || !holds(unless, cases));
        }

        boolean turn() {
            boolean can = passive && who < 3;
            passive = passive && !can;
            return can;
        }

        boolean ease() {
            String before = text();
            List<String> row = new ArrayList<>();
            if (when != null) {
                row.addAll(when);
            }
            if (unless != null) {
                row.addAll(unless);
                row.add("not");
                if (when != null) {
                    row.add("and");
                }
            }
            for (int i = 0; i + 1 < row.size();) {
                if (row.get(i).equals("not") && row.get(i + 1).equals("not")) {
                    row.remove(i);
                    row.remove(i);
                    i = 0;
                } else {
                    i++;
                }
            }
            when = row.isEmpty() ? null : row;
            unless = null;
            return !before.equals(text());
        }

        List<Line> parts() {
            List<Line> lines = new ArrayList<>();
            for (int act : acts) {
                Line line = copy();
                line.acts = new ArrayList<>(List.of(act));
                lines.add(line);
            }
            return lines;
        }

        boolean alikeButActs(Line o) {
            Line mine = copy();
            Line other = o.copy();
            mine.acts = new ArrayList<>(List.of(0));
            other.acts = mine.acts;
            return mine.text().equals(other.text());
        }
    }

    static boolean holds(List<String> cond, int cases) {
        Deque<Boolean> stack = new ArrayDeque<>();
        for (String s : cond) {
            switch (s) {
                case "not":
                    stack.push(!stack.pop());
                    break;
                case "and":
                    stack.push(stack.pop() & stack.pop());
                    break;
                case "or":
                    stack.push(stack.pop() | stack.pop());
                    break;
                default:
                    stack.push((cases >> Integer.parseInt(s) & 1) == 1);
            }
        }
        return stack.pop();
    }

    /** Each operand on the stack is its outermost operator's sign and its text. */
    static String condText(List<String> cond) {
        Deque<String> stack = new ArrayDeque<>();
        for (String s : cond) {
            if (s.equals("not")) {
                String x = stack.pop();
                stack.push("n" + "not " + ("ao".indexOf(x.charAt(0)) >= 0 ? "(" + x.substring(1) + ")" : x.substring(1)));
            } else if (s.equals("and")) {
                String behind = inAnd(stack.pop());
                stack.push("a" + inAnd(stack.pop()) + " and " + behind);
            } else if (s.equals("or")) {
                String behind = stack.pop().substring(1);
                stack.push("o" + stack.pop().substring(1) + " or " + behind);
            } else {
                stack.push("c" + "case " + s);
            }
        }
        return stack.pop().substring(1);
    }

    private static String inAnd(String x) {
        return x.charAt(0) == 'o' ? "(" + x.substring(1) + ")" : x.substring(1);
    }

    /** Reads a text; where it is wrong, fault tells where. */
    static final class Parse {
        int fault = NONE;
        List<Line> lines = new ArrayList<>();
        private Line line = new Line();
        private String state = "sentence";
        private List<String> cond = new ArrayList<>();
        private final Deque<String> open = new ArrayDeque<>();
        private boolean inUnless;

        Parse(String text) {
            Matcher m = THING.matcher(text);
            while (m.find()) {
                if (!step(m.group())) {
                    fault = m.start();
                    return;
                }
            }
            if (!Arrays.asList("told", "done", "by-told", "limited").contains(state) && !(state.equals("operator") && inUnless
                    && !open.contains("("))) {
                fault = text.length();
                return;
            }
            finishLine();
        }

        private void finishLine() {
            if (state.equals("operator")) {
                finishCond();
            }
            lines.add(line);
            line = new Line();
        }

        private void finishCond() {
            while (!open.isEmpty()) {
                cond.add(open.pop());
            }
            if (inUnless) {
                line.unless = cond;
            } else {
                line.when = cond;
            }
            cond = new ArrayList<>();
        }

        private boolean go(String next) {
            state = next;
            return true;
        }

        private static int number(String s) {
            return s.matches("[0-9]{1,3}") ? Integer.parseInt(s) : NONE;
        }

        private boolean step(String s) {
            switch (state) {
                case "sentence":
                    if (s.equals("if")) {
                        inUnless = false;
                        return go("operand");
                    }
                    return body(s);
                case "body":
                    return body(s);
                case "mode":
                    if (s.equals("may")) {
                        line.mode = 2;
                        return go(line.passive ? "be" : "act");
                    }
                    return s.equals("must") && go("must");
                case "must":
                    if (s.equals("not")) {
                        line.mode = 1;
                        return go(line.passive ? "be" : "act");
                    }
                    state = line.passive ? "be" : "act";
                    return step(s);
                case "act":
                    return s.equals("act") && go("actnumber");
                case "actnumber":
                    int act = number(s);
                    if (act < 0 || act > 9 || line.acts.contains(act)) {
                        return false;
                    }
                    line.acts.add(act);
                    return go(line.passive ? "passiveacts" : "told");
                case "passiveacts":
                    if (s.equals("and")) {
                        return line.acts.size() < 3 && go("act");
                    }
                    state = "mode";
                    return step(s);
                case "be":
                    return s.equals("be") && go("isdone");
                case "isdone":
                    return s.equals("done") && go("done");
                case "done":
                    return s.equals("by") ? go("by") : tail(s);
                case "by":
                    line.who = WHO.indexOf(s);
                    return line.who >= 0 && go("by-told");
                case "told":
                    return s.equals("and") ? line.acts.size() < 3 && go("act") : tail(s);
                case "by-told":
                    return tail(s);
                case "within":
                    line.limit = number(s);
                    return line.limit >= 1 && line.limit <= 365 && go("limited");
                case "limited":
                    return semicolon(s);
                default:
                    return condition(s);
            }
        }

        private boolean body(String s) {
            if (s.equals("act")) {
                line.passive = true;
                return go("actnumber");
            }
            line.who = WHO.indexOf(s);
            return line.who >= 0 && go("mode");
        }

        private boolean tail(String s) {
            if (s.equals("unless")) {
                inUnless = true;
                return go("operand");
            }
            return s.equals("within") ? go("within") : semicolon(s);
        }

        private boolean semicolon(String s) {
            if (!s.equals(";") || lines.size() == 7) {
                return false;
            }
            finishLine();
            return go("sentence");
        }

        private long deep() {
            return open.stream().filter(o -> o.equals("(") || o.equals("not")).count();
        }

        private void operandEnds() {
            while (!open.isEmpty() && open.peek().equals("not")) {
                cond.add(open.pop());
            }
            state = "operator";
        }

        private boolean condition(String s) {
            if (state.equals("operand")) {
                if (s.equals("not") || s.equals("(")) {
                    open.push(s);
                    return deep() <= 12;
                }
                return s.equals("case") && go("casenumber");
            }
            if (state.equals("casenumber")) {
                int n = number(s);
                cond.add("" + n);
                operandEnds();
                return n >= 0 && n <= 5;
            }
            if (s.equals("and") || s.equals("or")) {
                while (!open.isEmpty() && (open.peek().equals("and") || open.peek().equals("or") && s.equals("or"))) {
                    cond.add(open.pop());
                }
                open.push(s);
                return go("operand");
            }
            if (open.contains("(")) {
                if (!s.equals(")")) {
                    return false;
                }
                while (!open.peek().equals("(")) {
                    cond.add(open.pop());
                }
                open.pop();
                operandEnds();
                return true;
            }
            if (!inUnless) {
                if (s.equals(",")) {
                    finishCond();
                    return go("body");
                }
                return false;
            }
            if (s.equals("within")) {
                finishCond();
                return go("within");
            }
            return semicolon(s);
        }
    }

    private final StringBuilder tape = new StringBuilder();
    private List<Line> old;
    private List<Line> fresh;
    private int fault = NONE;
    private int letters;
    private int turns;

    int size() {
        return fresh == null ? 0 : fresh.size();
    }

    int taped() {
        return tape.length();
    }

    private static List<Line> copies(List<Line> lines) {
        List<Line> all = new ArrayList<>();
        for (Line line : lines) {
            all.add(line.copy());
        }
        return all;
    }

    /** What a call is due to answer, as Desk.answer tells it. */
    Object call(String name, int[] a) {
        switch (name) {
            case "feed":
                return feed(a);
            case "end":
                if (a[0] < 0 || a[0] > tape.length()) {
                    return false;
                }
                tape.setLength(a[0]);
                return true;
            case "letter":
                return letter();
            case "fault":
                return fault;
            case "taped":
                return a[0] >= 0 && a[0] < tape.length() ? (int) tape.charAt(a[0]) : NONE;
            case "count":
                return a[0] == 0 ? (old == null ? 0 : old.size()) : a[0] == 1 ? size() : a[0] == 2 ? tape.length()
                        : a[0] == 3 ? letters : a[0] == 4 ? turns : NONE;
            default:
                return old == null ? "IllegalStateException" : callOfLetter(name, a);
        }
    }

    private Object feed(int[] a) {
        if (tape.length() + 20 > 400) {
            return NONE;
        }
        for (int n : a) {
            tape.append((char) (n >>> 24)).append((char) (n >>> 16 & 255)).append((char) (n >>> 8 & 255))
                    .append((char) (n & 255));
        }
        return tape.length();
    }

    private Object letter() {
        Parse parse = new Parse(tape.toString());
        tape.setLength(0);
        fault = parse.fault;
        if (fault != NONE) {
            return "IllegalArgumentException";
        }
        old = parse.lines;
        fresh = copies(old);
        letters++;
        turns = 0;
        return old.size();
    }

    private Object callOfLetter(String name, int[] a) {
        switch (name) {
            case "part":
            case "melt":
            case "turn":
            case "ease":
                if (a[0] < 0 || a[0] >= fresh.size()) {
                    return "IndexOutOfBoundsException";
                }
                boolean done = turnOf(name, a[0]);
                turns += done ? 1 : 0;
                return done;
            case "plainest":
                return plainest();
            case "again":
                fresh = copies(old);
                return 0;
            case "cost":
                return (a[0] == 1 ? old : fresh).stream().mapToInt(Line::cost).sum();
            case "look":
                return look(a[0], a[1]);
            case "same":
                return asks(old).equals(asks(fresh));
            case "write":
                String text = fresh.stream().map(Line::text).reduce((x, y) -> x + "; " + y).get();
                if (text.length() > 400) {
                    return NONE;
                }
                tape.setLength(0);
                tape.append(text);
                return text.length();
            case "ask":
                int modes = 0;
                for (Line line : a[0] == 1 ? old : fresh) {
                    if (line.who == a[1] && line.acts.contains(a[2]) && line.counts(a[3])) {
                        modes |= new int[] {1, 2, 4}[line.mode];
                    }
                }
                return modes;
            case "days":
                return fresh.stream().filter(l -> l.mode == 0 && l.limit != NONE && l.who == a[0] && l.acts.contains(a[1])
                        && l.counts(a[2])).mapToInt(l -> l.limit).min().orElse(NONE);
            default:
                throw new IllegalStateException(name);
        }
    }

    private static Set<String> asks(List<Line> lines) {
        Set<String> all = new HashSet<>();
        for (int cases = 0; cases < 64; cases++) {
            for (Line line : lines) {
                for (int act : line.acts) {
                    if (line.counts(cases)) {
                        all.add(cases + " " + line.who + " " + line.mode + " " + act + " " + line.limit);
                    }
                }
            }
        }
        return all;
    }

    private boolean turnOf(String name, int i) {
        Line line = fresh.get(i);
        if (name.equals("turn")) {
            return line.turn();
        }
        if (name.equals("ease")) {
            return line.ease();
        }
        if (name.equals("part")) {
            if (line.acts.size() < 2 || fresh.size() - 1 + line.acts.size() > 24) {
                return false;
            }
            fresh.remove(i);
            fresh.addAll(i, line.parts());
            return true;
        }
        if (i + 1 == fresh.size() || !line.alikeButActs(fresh.get(i + 1))) {
            return false;
        }
        List<Integer> both = new ArrayList<>(line.acts);
        both.addAll(fresh.get(i + 1).acts);
        if (both.size() > 3 || new HashSet<>(both).size() < both.size()) {
            return false;
        }
        line.acts = both;
        fresh.remove(i + 1);
        return true;
    }

    private Object look(int i, int what) {
        if (i < 0 || i >= fresh.size()) {
            return "IndexOutOfBoundsException";
        }
        Line line = fresh.get(i);
        int[] all = {line.acts.size(), line.who, line.mode, line.limit, line.passive ? 1 : 0, line.words(), line.cost(),
            line.nots(), line.unless != null ? 1 : 0};
        return what < 0 || what > 8 ? "NoSuchElementException" : (Object) all[what];
    }

    private int plainest() {
        int n = old.size();
        List<List<Line>> ways = new ArrayList<>();
        int[] best = null;
        List<Line> bestLetter = null;
        // Beyond four sentences the ways of all of them are too many; each is then tried for itself, others as they are.
        if (n > 4) {
            List<Line> all = new ArrayList<>();
            for (Line line : old) {
                Model alone = new Model();
                alone.old = List.of(line);
                alone.plainest();
                all.addAll(alone.fresh);
            }
            fresh = all;
            return fresh.stream().mapToInt(Line::cost).sum();
        }
        for (int way = 0; way < 1 << 3 * n; way++) {
            List<Line> letter = new ArrayList<>();
            int[] rank = new int[2 + 2 * n];
            boolean real = true;
            for (int i = 0; i < n && real; i++) {
                real = addWay(letter, old.get(i), way >> 3 * i & 7, rank, 2 + 2 * i);
            }
            rank[0] = letter.stream().mapToInt(Line::cost).sum();
            if (real && (best == null || Arrays.compare(rank, best) < 0)) {
                best = rank;
                bestLetter = letter;
            }
        }
        fresh = bestLetter;
        return Objects.requireNonNull(best)[0];
    }

    /** False where a turn of this way would change nothing: then it is no way of its own. */
    private static boolean addWay(List<Line> letter, Line line, int way, int[] rank, int at) {
        List<Line> lines = List.of(line.copy());
        if ((way & 1) != 0) {
            lines = line.parts();
            rank[at] = 1;
            if (lines.size() == 1) {
                return false;
            }
        }
        for (Line one : lines) {
            if ((way & 2) != 0 && !one.turn() || (way & 4) != 0 && !one.ease()) {
                return false;
            }
        }
        rank[at + 1] = way >> 1 & 1;
        rank[1] += Integer.bitCount(way);
        letter.addAll(lines);
        return true;
    }
}
