import java.util.ArrayList;
import java.util.List;
import java.util.Random;

/** Letters by chance: most are right, some are broken in one or a few places. */
final class Letters {
    private static final String[] ALL = {"you", "we", "they", "must", "not", "may", "act", "and", "or", "be", "done", "by",
        "if", "unless", "within", "case", "(", ")", ",", ";", "0", "1", "9", "10", "365", "366", "007", "0001", "acts", "A",
        "\t", "\u00e9", "\0", "."};

    private final Random chance;
    private final List<String> things = new ArrayList<>();
    private final int bushy;

    Letters(Random chance) {
        this.chance = chance;
        this.bushy = 1 + chance.nextInt(4);
    }

    String text() {
        int sentences = chance.nextInt(3) == 0 ? 1 + chance.nextInt(9) : 1 + chance.nextInt(3);
        int lastBegin = 0;
        for (int i = 0; i < sentences; i++) {
            if (i > 0) {
                things.add(";");
            }
            int begin = things.size();
            if (i > 0 && chance.nextInt(3) == 0) {
                again(lastBegin, begin - 1);
            } else {
                sentence();
            }
            lastBegin = begin;
        }
        if (chance.nextInt(4) == 0) {
            spoil();
        }
        return joined();
    }

    /** The sentence ahead with other acts, so that some can be melted. */
    private void again(int from, int to) {
        for (int i = from; i < to; i++) {
            boolean ofAct = i > 0 && things.get(i - 1).equals("act");
            things.add(ofAct ? "" + chance.nextInt(10) : things.get(i));
        }
    }

    private void sentence() {
        if (chance.nextInt(2) == 0) {
            things.add("if");
            cond(0, bushy);
            things.add(",");
        }
        boolean passive = chance.nextInt(2) == 0;
        if (passive) {
            acts();
            mode();
            things.add("be");
            things.add("done");
            if (chance.nextInt(3) > 0) {
                things.add("by");
                who();
            }
        } else {
            who();
            mode();
            acts();
        }
        if (chance.nextInt(2) == 0) {
            things.add("unless");
            cond(0, bushy);
        }
        if (chance.nextInt(3) == 0) {
            things.add("within");
            things.add((chance.nextInt(5) == 0 ? "0" : "") + (1 + chance.nextInt(chance.nextInt(2) == 0 ? 12 : 99)));
        }
    }

    private void who() {
        things.add(ALL[chance.nextInt(3)]);
    }

    private void mode() {
        int mode = chance.nextInt(3);
        things.add(mode == 2 ? "may" : "must");
        if (mode == 1) {
            things.add("not");
        }
    }

    private void acts() {
        int act = chance.nextInt(10);
        int step = 1 + chance.nextInt(3);
        int n = chance.nextInt(60) == 0 ? 4 : 1 + chance.nextInt(3);
        for (int i = 0; i < n; i++) {
            if (i > 0) {
                things.add("and");
            }
            things.add("act");
            things.add((chance.nextInt(9) == 0 ? "0" : "") + (act + i * step) % 10);
        }
    }

    private void cond(int deep, int bush) {
        item(deep, bush);
        for (int i = chance.nextInt(bush + 1); i > 0; i--) {
            things.add(chance.nextInt(2) == 0 ? "and" : "or");
            item(deep, bush - 1);
        }
    }

    private void item(int deep, int bush) {
        int kind = deep > 13 ? 9 : chance.nextInt(10);
        if (kind < 3) {
            for (int i = chance.nextInt(12) == 0 ? 12 : 1; i > 0; i--) {
                things.add("not");
            }
            item(deep + 1, bush);
        } else if (kind < 6 && bush > 0) {
            int signs = chance.nextInt(12) == 0 ? 9 + chance.nextInt(5) : 1;
            for (int i = signs; i > 0; i--) {
                things.add("(");
            }
            cond(deep + signs, bush - 1);
            for (int i = signs; i > 0; i--) {
                things.add(")");
            }
        } else {
            things.add("case");
            things.add((chance.nextInt(15) == 0 ? "00" : "") + chance.nextInt(6));
        }
    }

    private void spoil() {
        for (int i = chance.nextInt(3); i >= 0 && !things.isEmpty(); i--) {
            int at = chance.nextInt(things.size());
            switch (chance.nextInt(5)) {
                case 0:
                    things.remove(at);
                    break;
                case 1:
                    things.add(at, ALL[chance.nextInt(ALL.length)]);
                    break;
                case 2:
                    things.set(at, ALL[chance.nextInt(ALL.length)]);
                    break;
                case 3:
                    things.add(at, things.get(at));
                    break;
                default:
                    things.subList(at, things.size()).clear();
            }
        }
    }

    /** Blanks stand where two words or two numbers would grow together, and elsewhere by chance. */
    private String joined() {
        StringBuilder text = new StringBuilder(" ".repeat(chance.nextInt(6) == 0 ? 2 : 0));
        int airy = chance.nextInt(4);
        for (String thing : things) {
            char last = text.length() == 0 ? ' ' : text.charAt(text.length() - 1);
            boolean grows = Character.isLetter(last) && Character.isLetter(thing.charAt(0))
                    || Character.isDigit(last) && Character.isDigit(thing.charAt(0));
            boolean blank = grows ? chance.nextInt(400) > 0 : chance.nextInt(4) < airy;
            text.append(blank ? " ".repeat(chance.nextInt(10) == 0 ? 2 : 1) : "").append(thing);
        }
        return text.append(" ".repeat(chance.nextInt(6) == 0 ? 3 : 0)).toString();
    }
}
