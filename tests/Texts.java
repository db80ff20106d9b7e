import java.util.ArrayList;
import java.util.List;
import java.util.Random;

/** Random texts: mostly right ones, some spoilt in a TOKEN or two, some too long. */
final class Texts {
    private static final String[] NAMES = {"a", "oak", "barley", "z", "meadow", "is", "at", "wheat", "abcdefg", "rye",
        "mm", "wheel", "grind", "stone", "bean", "pea"};
    private static final String[] ODD = {"plain", "land", "source", "field", "mill", "purse", "left", "right", "ice",
        "digs", "lays", "rolls", "spring", "years", "or", "and", "not", "wet", "near", "same", "above", "worth",
        "height", "changed", "number", ";", "<", "=", ">", "(", ")", ".", "0", "1", "2", "3", "5", "6", "9", "10", "20",
        "21", "99", "100", "999", "1000", "007", "a1", "1a", "abcdefgh", "A", "-1", "\t", ",", "oak", "mm", "nobody",
        "\u00e9", ""};
    private final Random random;
    private List<String> tokens = new ArrayList<>();
    private int ones;

    Texts(Random random) {
        this.random = random;
    }

    private int upTo(int n) {
        return random.nextInt(n);
    }

    private void put(Object... all) {
        for (Object one : all) {
            tokens.add(String.valueOf(one));
        }
    }

    String plain() {
        tokens = new ArrayList<>();
        int wide = 5;
        int high = 5;
        if (upTo(10) == 0) {
            put("ice", upTo(6), ";");
        }
        if (upTo(4) > 0) {
            wide = 3 + upTo(4);
            high = 2 + upTo(5);
            put("plain", wide, high, ";");
        }
        int spoilt = upTo(60);
        int fields = upTo(spoilt == 0 ? 13 : 11);
        int mills = upTo(spoilt == 1 ? 6 : 4);
        int lands = upTo(3) == 0 ? upTo(6) : wide * high * 2 / 3;
        List<String> lines = new ArrayList<>();
        boolean flat = upTo(2) == 0;
        int base = new int[] {0, 4, 7}[upTo(3)];
        boolean[] land = new boolean[36];
        boolean[] taken = new boolean[36];
        for (int c = 0; flat && c < wide * high; c++) {
            // all HEIGHTS near one another, often near what they can be at most
            land[6 * (c / wide) + c % wide] = true;
            lines.add("land " + c % wide + " " + c / wide + " " + (base + upTo(3)) + " ;");
        }
        for (int i = 0; i < lands && !flat; i++) {
            int x = upTo(wide);
            int y = upTo(high);
            if (!land[6 * y + x] || upTo(200) == 0) {
                land[6 * y + x] = true;
                lines.add("land " + x + " " + y + " " + upTo(10) + " ;");
            }
        }
        for (int i = 0; i < fields; i++) {
            int x = upTo(wide);
            int y = upTo(high);
            if (!taken[6 * y + x] || upTo(30) == 0) {
                taken[6 * y + x] = true;
                lines.add(upTo(lines.size() + 1), "field " + NAMES[i % 10] + " " + x + " " + y + " " + (1 + upTo(20)) + " ;");
            }
        }
        for (int i = 0; i < mills; i++) {
            String name = NAMES[10 + (upTo(20) == 0 ? 0 : i)];
            lines.add(upTo(lines.size() + 1), "mill " + name + " " + upTo(wide) + " " + upTo(high) + " ;");
        }
        if (upTo(3) > 0) {
            lines.add(upTo(lines.size() + 1), "source " + upTo(wide) + " ;");
        }
        if (tokens.isEmpty() && upTo(2) > 0) {
            lines.add(upTo(lines.size() + 1), "ice " + upTo(6) + " ;");
        }
        for (String side : new String[] {"left", "right"}) {
            if (upTo(2) > 0) {
                lines.add(upTo(lines.size() + 1), "purse " + side + " " + upTo(upTo(3) == 0 ? 100 : 4) + " ;");
            }
        }
        for (String line : lines) {
            put((Object[]) line.split(" "));
        }
        return joined(900);
    }

    String book(boolean millsToo) {
        tokens = new ArrayList<>();
        int lines = upTo(30) == 0 ? 38 + upTo(6) : upTo(8);
        for (int i = 0; i < lines; i++) {
            int kind = upTo(10);
            int reach = upTo(5) == 0 ? 6 : 4;
            if (lines > 20) {
                put("years", 1 + upTo(2), ";");
            } else if (kind < 5) {
                put(upTo(2) == 0 ? "left" : "right", upTo(2) == 0 ? "digs" : "lays", upTo(reach), upTo(reach), ";");
            } else if (kind < 7 && millsToo) {
                put(NAMES[10 + upTo(3)], "rolls", upTo(reach), upTo(reach), ";");
            } else if (kind < 9) {
                put("spring", upTo(1000), ";");
            } else {
                put("years", 1 + upTo(30), ";");
            }
        }
        return joined(400);
    }

    String sentence() {
        tokens = new ArrayList<>();
        ones = 0;
        cond(upTo(12) == 0 ? 7 : 3, upTo(8) == 0);
        return joined(200);
    }

    private void cond(int depth, boolean large) {
        all(depth, large);
        while (upTo(large ? 2 : 4) == 0 && ones < 30) {
            put("or");
            all(depth, large);
        }
    }

    private void all(int depth, boolean large) {
        one(depth, large);
        while (upTo(large ? 2 : 4) == 0 && ones < 30) {
            put("and");
            one(depth, large);
        }
    }

    private void one(int depth, boolean large) {
        ones++;
        int kind = upTo(large ? 7 : 12);
        if (kind < 2 && depth > -2) {
            put("not");
            one(depth - 1, large);
        } else if (kind < 5 && depth > 0) {
            put("(");
            cond(depth - 1, large);
            put(")");
        } else if (upTo(3) == 0) {
            put(new String[] {"left", "right", "wet", "near"}[upTo(4)]);
        } else if (upTo(3) == 0) {
            put(upTo(2) == 0 ? "same" : "above", NAMES[upTo(40) == 0 ? 11 : upTo(6)]);
        } else {
            put(new String[] {"worth", "height", "changed", "number"}[upTo(4)], "<=>".substring(upTo(3)).substring(0, 1),
                upTo(12));
        }
    }

    private String joined(int most) {
        int spoil = upTo(4) == 0 ? 1 + upTo(2) : 0;
        for (int i = 0; i < spoil && !tokens.isEmpty(); i++) {
            int at = upTo(tokens.size());
            int how = upTo(4);
            if (how == 0) {
                tokens.remove(at);
            } else if (how == 1) {
                tokens.add(at, tokens.get(upTo(tokens.size())));
            } else {
                tokens.set(at, ODD[upTo(ODD.length)]);
            }
        }
        StringBuilder text = new StringBuilder();
        boolean tight = upTo(2) == 0;
        for (int i = 0; i < tokens.size(); i++) {
            boolean apart = i > 0 && Character.isLetterOrDigit(last(tokens.get(i - 1)))
                && Character.isLetterOrDigit(first(tokens.get(i)));
            if (apart && upTo(200) > 0 || i > 0 && !tight) {
                text.append(upTo(5) == 0 ? "\n" : " ");
            }
            text.append(tokens.get(i));
        }
        if (upTo(25) == 0 && text.length() < most) {
            // up to the most bytes, or some behind them
            int at = upTo(2) == 0 ? text.length() : text.indexOf(" ") < 0 ? 0 : text.indexOf(" ");
            String pad = " ".repeat(Math.max(0, most - text.length() - 3 + upTo(9)));
            text.insert(at, pad);
        }
        if (text.length() > 940) {
            text.setLength(940);
        }
        return text.toString();
    }

    private static char last(String s) {
        return s.isEmpty() ? ' ' : s.charAt(s.length() - 1);
    }

    private static char first(String s) {
        return s.isEmpty() ? ' ' : s.charAt(0);
    }
}
