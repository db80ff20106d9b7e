import java.util.ArrayDeque;
import java.util.ArrayList;
import java.util.Arrays;
import java.util.HashMap;
import java.util.HashSet;
import java.util.List;
import java.util.Map;
import java.util.NoSuchElementException;
import java.util.Set;
import java.util.function.IntPredicate;
import java.util.regex.Matcher;
import java.util.regex.Pattern;

/**
 * The document once more, written another way and without a thought for cost: every bed is listed and weighed, every
 * set of works is tried. SameAnswersTest holds BanksDealt against it.
 */
final class Model {
    static final int NONE = -1;
    static final Set<String> TOLD = new HashSet<>(Arrays.asList(("plain land source field mill purse left right ice digs"
        + " lays rolls spring years or and not wet near same above worth height changed number").split(" ")));

    /** Thrown where a text's FAULT is. */
    static final class Fault extends RuntimeException {
        final int kind;
        final int place;

        Fault(int kind, int place) {
            super(null, null, false, false);
            this.kind = kind;
            this.place = place;
        }
    }

    static final class Field {
        String name;
        int x;
        int y;
        int worth;
        int changed;

        Field copy() {
            Field f = new Field();
            f.name = name;
            f.x = x;
            f.y = y;
            f.worth = worth;
            f.changed = changed;
            return f;
        }
    }

    static final class Mill {
        String name;
        int x;
        int y;
        int rolled;

        Mill copy() {
            Mill m = new Mill();
            m.name = name;
            m.x = x;
            m.y = y;
            m.rolled = rolled;
            return m;
        }
    }

    static final class State {
        int wide = 5;
        int high = 5;
        int source;
        int ice = 2;
        int[][] h = new int[6][6];
        List<Field> fields = new ArrayList<>();
        List<Mill> mills = new ArrayList<>();
        int[] coin = {9, 9};
        int[] worked = {0, 0};
        int springs;
        int[] bed;
        List<int[]> beds = new ArrayList<>();

        State() {
            for (int[] row : h) {
                Arrays.fill(row, 5);
            }
        }

        State copy() {
            State s = new State();
            s.wide = wide;
            s.high = high;
            s.source = source;
            s.ice = ice;
            for (int y = 0; y < 6; y++) {
                s.h[y] = h[y].clone();
            }
            for (Field f : fields) {
                s.fields.add(f.copy());
            }
            for (Mill m : mills) {
                s.mills.add(m.copy());
            }
            s.coin = coin.clone();
            s.worked = worked.clone();
            s.springs = springs;
            s.bed = bed.clone();
            s.beds = new ArrayList<>(beds);
            return s;
        }

        boolean has(int x, int y) {
            return x >= 0 && y >= 0 && x < wide && y < high;
        }
    }

    static final class Token {
        final int at;
        final String text;
        final char kind;

        Token(int at, String text, char kind) {
            this.at = at;
            this.text = text;
            this.kind = kind;
        }
    }

    /** TOKENS of a whole text, the last one being what is behind them all: e the end, x what can never come. */
    static List<Token> tokens(String text, int most) {
        List<Token> all = new ArrayList<>();
        Matcher m = Pattern.compile("[ \n]+|[a-z0-9]+|[\\s\\S]").matcher(text);
        while (m.find()) {
            String t = m.group();
            if (t.charAt(0) == ' ' || t.charAt(0) == '\n') {
                continue;
            }
            if (m.start() >= most) {
                break;
            }
            char kind = 'x';
            if (t.matches("[a-z]{1,7}")) {
                kind = 'w';
            } else if (t.matches("[0-9]{1,3}")) {
                kind = 'n';
            } else if (t.length() == 1 && ";<=>()".contains(t)) {
                kind = t.charAt(0);
            }
            all.add(new Token(m.start(), t, kind));
        }
        all.add(text.length() > most ? new Token(most, "", 'x') : new Token(text.length(), "", 'e'));
        return all;
    }

    static final class Tokens {
        final List<Token> all;
        int next;

        Tokens(String text, int most) {
            all = tokens(text, most);
        }

        Token peek() {
            return all.get(Math.min(next, all.size() - 1));
        }

        Token take() {
            Token t = peek();
            next++;
            return t;
        }

        int number(int low, int top) {
            Token t = take();
            if (t.kind != 'n') {
                throw new Fault(1, t.at);
            }
            int n = Integer.parseInt(t.text);
            if (n < low || n > top) {
                throw new Fault(2, t.at);
            }
            return n;
        }

        Token word(String... ones) {
            Token t = take();
            if (t.kind != 'w' || !Arrays.asList(ones).contains(t.text)) {
                throw new Fault(1, t.at);
            }
            return t;
        }

        Token name() {
            Token t = take();
            if (t.kind != 'w' || TOLD.contains(t.text)) {
                throw new Fault(1, t.at);
            }
            return t;
        }

        void sign(char c) {
            Token t = take();
            if (t.kind != c) {
                throw new Fault(1, t.at);
            }
        }
    }

    interface Said {
        boolean of(State s, int f);
    }

    static final class Entry {
        State state;
        Said said;
    }

    StringBuilder tape = new StringBuilder();
    State s = new State();
    Said said;
    int fault;
    ArrayDeque<State> past = new ArrayDeque<>();
    int[] temptedWorks;
    int[] duelWorks;
    int[] pushedWorks;
    int[] ranFirst;
    int[] ranSure;
    String deed;
    int[] told;
    Entry[] images = new Entry[2];
    int seed;

    Model() {
        s.bed = leastBed(s, s.h);
    }

    // Beds

    static final Map<Integer, List<int[]>> BEDS = new HashMap<>();

    /** Beds from a cell of the first row, in rising order. */
    static List<int[]> bedsFrom(int wide, int high, int source) {
        return BEDS.computeIfAbsent(wide * 100 + high * 10 + source, k -> {
            List<int[]> all = new ArrayList<>();
            int[] bed = new int[high];
            bed[0] = source;
            grow(all, bed, 1, wide);
            return all;
        });
    }

    private static void grow(List<int[]> all, int[] bed, int y, int wide) {
        if (y == bed.length) {
            all.add(bed.clone());
            return;
        }
        for (int x = bed[y - 1] - 1; x <= bed[y - 1] + 1; x++) {
            if (x >= 0 && x < wide) {
                bed[y] = x;
                grow(all, bed, y + 1, wide);
            }
        }
    }

    static int weight(int[] bed, int[][] h) {
        int sum = 0;
        for (int y = 0; y < bed.length; y++) {
            sum += h[y][bed[y]];
        }
        return sum;
    }

    static int[] leastBed(State s, int[][] h) {
        int[] best = null;
        int least = 0;
        for (int[] bed : bedsFrom(s.wide, s.high, s.source)) {
            int w = weight(bed, h);
            if (best == null || w < least) {
                best = bed;
                least = w;
            }
        }
        return best;
    }

    static int whose(int[] bed, int x, int y) {
        return x < bed[y] ? 0 : x > bed[y] ? 1 : 2;
    }

    static int whose(int[] bed, Field f) {
        return whose(bed, f.x, f.y);
    }

    static int bits(State s, int[] bed, int who) {
        int b = 0;
        for (int f = 0; f < s.fields.size(); f++) {
            if (whose(bed, s.fields.get(f)) == who) {
                b |= 1 << f;
            }
        }
        return b;
    }

    static int worth(State s, int[] bed, int who) {
        int sum = 0;
        for (Field f : s.fields) {
            sum += whose(bed, f) == who ? f.worth : 0;
        }
        return sum;
    }

    // Acts

    static int whyWork(State s, int side, int x, int y, boolean stone) {
        if (s.coin[side] == 0) {
            return 1;
        }
        return whyWorkWithoutCoin(s, s.h, side, x, y, stone);
    }

    static int whyWorkWithoutCoin(State s, int[][] h, int side, int x, int y, boolean stone) {
        if (whose(s.bed, x, y) == 1 - side) {
            return 2;
        }
        return h[y][x] == (stone ? 9 : 0) ? 3 : 0;
    }

    static void doWork(State s, int side, int x, int y, boolean stone) {
        s.coin[side] -= 1;
        s.worked[side] += 1;
        s.h[y][x] += stone ? 1 : -1;
    }

    static int whyRoll(State s, Mill m, int x, int y) {
        boolean next = m.x == x && Math.abs(m.y - y) == 1 || m.y == y && Math.abs(m.x - x) == 1;
        if (!next) {
            return 1;
        }
        return s.bed[m.y] == m.x ? 2 : 0;
    }

    int draw(int n) {
        seed = seed * 1103515245 + 12345;
        return (seed >>> 8) % n;
    }

    int springOn(State s) {
        int[][] iced = new int[s.high][s.wide];
        for (int y = 0; y < s.high; y++) {
            for (int x = 0; x < s.wide; x++) {
                iced[y][x] = s.h[y][x] + draw(s.ice + 1);
            }
        }
        int[] bed = leastBed(s, iced);
        int often = 0;
        for (Field f : s.fields) {
            if (whose(bed, f) != whose(s.bed, f)) {
                f.changed++;
                often++;
            }
        }
        s.beds.add(s.bed);
        s.bed = bed;
        s.springs++;
        for (int side = 0; side < 2; side++) {
            int more = worth(s, bed, side) / 4;
            for (Mill m : s.mills) {
                more += whose(bed, m.x, m.y) == side ? 2 : 0;
            }
            s.coin[side] = Math.min(999, s.coin[side] + more);
        }
        return often;
    }

    int yearsOn(State s, int n) {
        int came = 0;
        while (came < n && s.springs < 400) {
            springOn(s);
            came++;
        }
        return came;
    }

    void remember(State ahead) {
        past.addLast(ahead);
        if (past.size() > 8) {
            past.removeFirst();
        }
    }

    // The face

    int feed(int a, int b, int c, int d, int e) {
        if (tape.length() + 20 > 940) {
            return NONE;
        }
        for (int four : new int[] {a, b, c, d, e}) {
            tape.append((char) (four >> 24 & 255)).append((char) (four >> 16 & 255));
            tape.append((char) (four >> 8 & 255)).append((char) (four & 255));
        }
        return tape.length();
    }

    boolean end(int n) {
        if (n < 0 || n > tape.length()) {
            return false;
        }
        tape.setLength(n);
        return true;
    }

    private String takeTape() {
        String t = tape.toString();
        tape.setLength(0);
        fault = 0;
        return t;
    }

    int plain() {
        State p = new State();
        int lines;
        try {
            lines = readPlain(new Tokens(takeTape(), 900), p);
        } catch (Fault f) {
            fault = f.kind;
            return -1 - f.place;
        }
        p.bed = leastBed(p, p.h);
        s = p;
        said = null;
        past.clear();
        return lines;
    }

    private static int readPlain(Tokens t, State p) {
        int lines = 0;
        Set<String> once = new HashSet<>();
        Set<String> names = new HashSet<>();
        while (t.peek().kind != 'e') {
            Token first = t.word("plain", "land", "source", "field", "mill", "purse", "ice");
            String w = first.text;
            boolean again = once.contains(w) && (w.equals("plain") || w.equals("source") || w.equals("ice"));
            if (again || w.equals("plain") && (once.contains("cell") || once.contains("source"))) {
                throw new Fault(3, first.at);
            }
            if (w.equals("field") && p.fields.size() == 10 || w.equals("mill") && p.mills.size() == 3) {
                throw new Fault(4, first.at);
            }
            once.add(w);
            if (w.equals("plain")) {
                p.wide = t.number(3, 6);
                p.high = t.number(2, 6);
            } else if (w.equals("source")) {
                p.source = t.number(0, p.wide - 1);
            } else if (w.equals("ice")) {
                p.ice = t.number(0, 5);
            } else if (w.equals("purse")) {
                Token side = t.word("left", "right");
                if (!once.add("purse " + side.text)) {
                    throw new Fault(3, side.at);
                }
                p.coin[side.text.equals("left") ? 0 : 1] = t.number(0, 99);
            } else {
                readCellLine(t, p, w, once, names);
            }
            t.sign(';');
            lines++;
        }
        return lines;
    }

    private static void readCellLine(Tokens t, State p, String w, Set<String> once, Set<String> names) {
        String name = null;
        if (!w.equals("land")) {
            Token n = t.name();
            if (!names.add(n.text)) {
                throw new Fault(3, n.at);
            }
            name = n.text;
        }
        int x = t.number(0, p.wide - 1);
        int yAt = t.peek().at;
        int y = t.number(0, p.high - 1);
        if (!w.equals("mill") && !once.add(w + " " + x + " " + y)) {
            throw new Fault(3, yAt);
        }
        once.add("cell");
        if (w.equals("land")) {
            p.h[y][x] = t.number(0, 9);
        } else if (w.equals("mill")) {
            Mill m = new Mill();
            m.name = name;
            m.x = x;
            m.y = y;
            p.mills.add(m);
        } else {
            Field f = new Field();
            f.name = name;
            f.x = x;
            f.y = y;
            f.worth = t.number(1, 20);
            p.fields.add(f);
        }
    }

    int fault() {
        return fault;
    }

    boolean isField(int f) {
        return f >= 0 && f < s.fields.size();
    }

    int field(int f, int what) {
        if (!isField(f) || what < 0 || what > 4) {
            throw new NoSuchElementException();
        }
        Field g = s.fields.get(f);
        return new int[] {g.x, g.y, g.worth, whose(s.bed, g), g.changed}[what];
    }

    int mill(int m, int what) {
        if (m < 0 || m >= s.mills.size() || what < 0 || what > 3) {
            return NONE;
        }
        Mill g = s.mills.get(m);
        return new int[] {g.x, g.y, whose(s.bed, g.x, g.y), g.rolled}[what];
    }

    int height(int x, int y) {
        return s.has(x, y) ? s.h[y][x] : NONE;
    }

    int bank(int x, int y) {
        return s.has(x, y) ? whose(s.bed, x, y) : NONE;
    }

    int bed(int y) {
        return s.has(0, y) ? s.bed[y] : NONE;
    }

    int side(int a, int what) {
        if (a < 0 || a > 1 || what < 0 || what > 3) {
            return NONE;
        }
        return new int[] {s.coin[a], bits(s, s.bed, a), worth(s, s.bed, a), s.worked[a]}[what];
    }

    int now(int what) {
        if (what < 0 || what > 4) {
            return NONE;
        }
        int bends = 0;
        for (int y = 1; y < s.high; y++) {
            bends += s.bed[y] == s.bed[y - 1] ? 0 : 1;
        }
        int changes = s.fields.stream().mapToInt(f -> f.changed).sum();
        return new int[] {s.springs, bits(s, s.bed, 2), weight(s.bed, s.h), bends, changes}[what];
    }

    int dig(int a, int x, int y) {
        return work(a, x, y, false);
    }

    int lay(int a, int x, int y) {
        return work(a, x, y, true);
    }

    private int work(int a, int x, int y, boolean stone) {
        if (a < 0 || a > 1 || !s.has(x, y)) {
            return NONE;
        }
        int why = whyWork(s, a, x, y, stone);
        if (why == 0) {
            remember(s.copy());
            doWork(s, a, x, y, stone);
        }
        return why;
    }

    int roll(int m, int x, int y) {
        if (m < 0 || m >= s.mills.size() || !s.has(x, y)) {
            return NONE;
        }
        int why = whyRoll(s, s.mills.get(m), x, y);
        if (why == 0) {
            remember(s.copy());
            rollOn(s, m, x, y);
        }
        return why;
    }

    static void rollOn(State s, int m, int x, int y) {
        s.mills.get(m).x = x;
        s.mills.get(m).y = y;
        s.mills.get(m).rolled++;
    }

    int spring(int seed) {
        if (s.springs == 400) {
            return NONE;
        }
        remember(s.copy());
        this.seed = seed;
        return springOn(s);
    }

    int years(int n, int seed) {
        if (n < 1 || n > 30) {
            return NONE;
        }
        State ahead = s.copy();
        this.seed = seed;
        int came = yearsOn(s, n);
        if (came > 0) {
            remember(ahead);
        }
        return came;
    }

    int undo() {
        if (past.isEmpty()) {
            return NONE;
        }
        s = past.removeLast();
        return past.size();
    }

    int would() {
        return weight(leastBed(s, s.h), s.h);
    }

    int wouldAt(int y) {
        return s.has(0, y) ? leastBed(s, s.h)[y] : NONE;
    }

    int wouldBe(int a) {
        return a < 0 || a > 2 ? NONE : bits(s, leastBed(s, s.h), a);
    }

    static int[][] worked(int[][] h, int... works) {
        int[][] w = new int[h.length][];
        for (int y = 0; y < h.length; y++) {
            w[y] = h[y].clone();
        }
        for (int k : works) {
            if (k >= 0) {
                w[k % 36 / 6][k % 6] += k >= 36 ? 1 : -1;
            }
        }
        return w;
    }

    List<Integer> works(int[][] h, int side) {
        List<Integer> all = new ArrayList<>();
        for (int k = 0; k < 72; k++) {
            int x = k % 6;
            int y = k % 36 / 6;
            if (s.has(x, y) && whyWorkWithoutCoin(s, h, side, x, y, k >= 36) == 0) {
                all.add(k);
            }
        }
        return all;
    }

    int tempted(int f, int a, int stones) {
        if (!isField(f) || a < 0 || a > 1 || stones < 0 || stones > 1) {
            return NONE;
        }
        List<Integer> ones = works(s.h, a);
        ones.removeIf(k -> k / 36 != stones);
        Field g = s.fields.get(f);
        for (int n = 0; n <= 3; n++) {
            for (int[] set : sets(ones, n)) {
                if (whose(leastBed(s, worked(s.h, set)), g) == a) {
                    temptedWorks = set;
                    for (int i = 0; i < n; i++) {
                        set[i] %= 36;
                    }
                    return n;
                }
            }
        }
        return NONE;
    }

    /** Sets of n of them, in rising order, the first ahead. */
    static List<int[]> sets(List<Integer> ones, int n) {
        List<int[]> all = new ArrayList<>();
        for (int i = 0; i < ones.size() || n == 0; i++) {
            if (n == 0) {
                all.add(new int[0]);
                return all;
            }
            for (int[] more : sets(ones.subList(i + 1, ones.size()), n - 1)) {
                int[] set = new int[n];
                set[0] = ones.get(i);
                System.arraycopy(more, 0, set, 1, n - 1);
                all.add(set);
            }
        }
        return all;
    }

    int temptedAt(int k) {
        return temptedWorks == null || k < 0 || k >= temptedWorks.length ? NONE : temptedWorks[k];
    }

    int duel(int a) {
        if (a < 0 || a > 1) {
            throw new NoSuchElementException();
        }
        int most = -100000;
        for (int w : choices(s.h, a)) {
            int[][] h = worked(s.h, w);
            int least = 100000;
            int reply = 0;
            for (int v : choices(h, 1 - a)) {
                int[] bed = leastBed(s, worked(h, v));
                int value = worth(s, bed, a) - worth(s, bed, 1 - a);
                if (value < least) {
                    least = value;
                    reply = v;
                }
            }
            if (least > most) {
                most = least;
                duelWorks = new int[] {w, reply};
            }
        }
        return most;
    }

    private List<Integer> choices(int[][] h, int a) {
        List<Integer> all = new ArrayList<>();
        all.add(-2);
        if (s.coin[a] > 0) {
            all.addAll(works(h, a));
        }
        return all;
    }

    int duelAt(int k) {
        return duelWorks == null || k < 0 || k > 1 ? NONE : duelWorks[k];
    }

    int pushed(int a, int n) {
        if (a < 0 || a > 1 || n < 0 || n > 2) {
            return NONE;
        }
        List<Integer> ones = works(s.h, a);
        int most = -1;
        for (int k = 0; k <= n; k++) {
            for (int[] set : sets(ones, k)) {
                if (k == 2 && set[0] % 36 == set[1] % 36) {
                    continue;
                }
                int value = worth(s, leastBed(s, worked(s.h, set)), a);
                if (value > most) {
                    most = value;
                    pushedWorks = set;
                }
            }
        }
        return most;
    }

    int pushedAt(int k) {
        return pushedWorks == null || k < 0 || k >= pushedWorks.length ? NONE : pushedWorks[k];
    }

    int ago(int k, int y) {
        return k < 1 || k > 8 || k > s.springs || !s.has(0, y) ? NONE : s.beds.get(s.springs - k)[y];
    }

    int shares(int a, int m, int n, int seed) {
        if (a < 0 || a > 1 || m < 1 || m > 10 || n < 1 || n > 30) {
            return NONE;
        }
        int sum = 0;
        for (int i = 0; i < n; i++) {
            State t = s.copy();
            this.seed = seed + i;
            for (int j = 0; j < m && t.springs < 400; j++) {
                yearsOn(t, 1);
                sum += worth(t, t.bed, a);
            }
        }
        return sum;
    }

    int ran() {
        String t = tape.toString();
        tape.setLength(0);
        if (t.length() < 2 || t.length() > 20 || t.length() % 2 == 1) {
            return NONE;
        }
        for (int i = 0; i < t.length(); i += 2) {
            if (t.charAt(i) >= s.fields.size() || t.charAt(i + 1) > 2) {
                return NONE;
            }
        }
        List<int[]> all = new ArrayList<>();
        for (int x = 0; x < s.wide; x++) {
            for (int[] bed : bedsFrom(s.wide, s.high, x)) {
                boolean so = true;
                for (int i = 0; i < t.length(); i += 2) {
                    so &= whose(bed, s.fields.get(t.charAt(i))) == t.charAt(i + 1);
                }
                if (so) {
                    all.add(bed);
                }
            }
        }
        if (!all.isEmpty()) {
            ranFirst = all.get(0);
            ranSure = ranFirst.clone();
            for (int[] bed : all) {
                for (int y = 0; y < s.high; y++) {
                    ranSure[y] = bed[y] == ranFirst[y] ? ranSure[y] : NONE;
                }
            }
        }
        return all.size();
    }

    int ranAt(int y) {
        return ranFirst == null || y < 0 || y >= ranFirst.length ? NONE : ranFirst[y];
    }

    int sure(int y) {
        return ranSure == null || y < 0 || y >= ranSure.length ? NONE : ranSure[y];
    }

    int odds(int f, int a, int m, int n, int seed) {
        if (!isField(f) || a < 0 || a > 2 || m < 1 || m > 10 || n < 1 || n > 30) {
            return NONE;
        }
        int often = 0;
        for (int i = 0; i < n; i++) {
            State t = s.copy();
            this.seed = seed + i;
            yearsOn(t, m);
            often += whose(t.bed, t.fields.get(f)) == a ? 1 : 0;
        }
        return often;
    }

    int richest(int a) {
        int best = NONE;
        for (int f = s.fields.size() - 1; f >= 0 && (a == 0 || a == 1); f--) {
            boolean its = whose(s.bed, s.fields.get(f)) == a;
            if (its && (best == NONE || s.fields.get(f).worth >= s.fields.get(best).worth)) {
                best = f;
            }
        }
        return best;
    }

    int deed(int f) {
        if (!isField(f)) {
            return NONE;
        }
        Field g = s.fields.get(f);
        deed = g.name + " is " + new String[] {"left", "right", "wet"}[whose(s.bed, g)] + " at " + g.x + " " + g.y;
        return deed.length();
    }

    int byteAt(int i) {
        return deed == null || i < 0 || i >= deed.length() ? NONE : deed.charAt(i);
    }

    /** A LINE of a BOOK: lives it, or tells why not. */
    interface Line {
        int live(State s);
    }

    int book(int lives) {
        if (lives != 0 && lives != 1) {
            return -1000;
        }
        List<Line> lines;
        try {
            lines = readBook(new Tokens(takeTape(), 400));
        } catch (Fault f) {
            fault = f.kind;
            return -2 - f.place;
        }
        State t = s.copy();
        int i = 0;
        int why = 0;
        while (i < lines.size() && why == 0) {
            why = lines.get(i).live(t);
            i += why == 0 ? 1 : 0;
        }
        told = new int[] {why, i, t.springs, bits(t, t.bed, 0)};
        if (lives == 1 && i > 0) {
            remember(s);
            s = t;
        }
        return why == 0 ? NONE : i;
    }

    private List<Line> readBook(Tokens t) {
        List<Line> lines = new ArrayList<>();
        while (t.peek().kind != 'e') {
            Token first = t.take();
            String w = first.text;
            if (first.kind != 'w') {
                throw new Fault(1, first.at);
            }
            int mill = NONE;
            for (int m = 0; m < s.mills.size(); m++) {
                mill = s.mills.get(m).name.equals(w) ? m : mill;
            }
            if (mill == NONE && !TOLD.contains(w)) {
                throw new Fault(3, first.at);
            }
            if (mill == NONE && !Arrays.asList("left", "right", "spring", "years").contains(w)) {
                throw new Fault(1, first.at);
            }
            if (lines.size() == 40) {
                throw new Fault(4, first.at);
            }
            lines.add(readLine(t, w, mill));
            t.sign(';');
        }
        return lines;
    }

    private Line readLine(Tokens t, String w, int mill) {
        if (mill != NONE) {
            t.word("rolls");
            int x = t.number(0, 5);
            int y = t.number(0, 5);
            return p -> {
                int why = p.has(x, y) ? whyRoll(p, p.mills.get(mill), x, y) : 9;
                if (why == 0) {
                    rollOn(p, mill, x, y);
                }
                return why == 0 ? 0 : 40 + why;
            };
        }
        if (w.equals("left") || w.equals("right")) {
            boolean stone = t.word("digs", "lays").text.equals("lays");
            int x = t.number(0, 5);
            int y = t.number(0, 5);
            int side = w.equals("left") ? 0 : 1;
            return p -> {
                int why = p.has(x, y) ? whyWork(p, side, x, y, stone) : 9;
                if (why == 0) {
                    doWork(p, side, x, y, stone);
                }
                return why == 0 ? 0 : why + (stone ? 10 : 0);
            };
        }
        int number = w.equals("spring") ? t.number(0, 999) : t.number(1, 30);
        int n = w.equals("spring") ? 1 : number;
        return p -> {
            if (400 - p.springs < n) {
                return 31;
            }
            seed = number;
            yearsOn(p, n);
            return 0;
        };
    }

    int told(int what) {
        return told == null || what < 0 || what > 3 ? NONE : told[what];
    }

    int ones;

    int sentence() {
        Tokens t = new Tokens(takeTape(), 200);
        ones = 0;
        try {
            Said all = cond(t, 1);
            t.sign('e');
            said = all;
        } catch (Fault f) {
            fault = f.kind;
            return -1 - f.place;
        }
        return ones;
    }

    private Said cond(Tokens t, int depth) {
        Said a = all(t, depth);
        while (t.peek().text.equals("or")) {
            t.take();
            Said left = a;
            Said right = all(t, depth);
            a = (p, f) -> left.of(p, f) || right.of(p, f);
        }
        return a;
    }

    private Said all(Tokens t, int depth) {
        Said a = one(t, depth);
        while (t.peek().text.equals("and")) {
            t.take();
            Said left = a;
            Said right = one(t, depth);
            a = (p, f) -> left.of(p, f) && right.of(p, f);
        }
        return a;
    }

    private Said one(Tokens t, int depth) {
        Token first = t.take();
        String w = first.text;
        if (first.kind != '(' && !Arrays.asList("not", "left", "right", "wet", "near", "same", "above", "worth",
            "height", "changed", "number").contains(w)) {
            throw new Fault(1, first.at);
        }
        ones++;
        if (ones > 20 || depth > 8) {
            throw new Fault(4, first.at);
        }
        if (first.kind == '(') {
            Said in = cond(t, depth + 1);
            t.sign(')');
            return in;
        }
        if (w.equals("not")) {
            Said in = one(t, depth + 1);
            return (p, f) -> !in.of(p, f);
        }
        if (w.equals("near")) {
            return (p, f) -> {
                Field g = p.fields.get(f);
                return p.bed[g.y] == g.x - 1 || p.bed[g.y] == g.x + 1;
            };
        }
        int who = Arrays.asList("left", "right", "wet").indexOf(w);
        if (who >= 0) {
            return (p, f) -> whose(p.bed, p.fields.get(f)) == who;
        }
        return w.equals("same") || w.equals("above") ? ofOther(t, w) : compared(t, w);
    }

    private Said ofOther(Tokens t, String w) {
        Token n = t.name();
        for (int g = 0; g < s.fields.size(); g++) {
            if (s.fields.get(g).name.equals(n.text)) {
                int other = g;
                if (w.equals("above")) {
                    return (p, f) -> p.fields.get(f).y < p.fields.get(other).y;
                }
                return (p, f) -> {
                    int a = whose(p.bed, p.fields.get(f));
                    int b = whose(p.bed, p.fields.get(other));
                    return a == 0 && b == 0 || a == 1 && b == 1;
                };
            }
        }
        throw new Fault(3, n.at);
    }

    private Said compared(Tokens t, String w) {
        Token sign = t.take();
        if (!"<=>".contains(sign.text) || sign.text.isEmpty()) {
            throw new Fault(1, sign.at);
        }
        int n = t.number(0, 999);
        IntPredicate is = v -> sign.text.equals("<") ? v < n : sign.text.equals(">") ? v > n : v == n;
        return (p, f) -> {
            Field g = p.fields.get(f);
            switch (w) {
                case "worth":
                    return is.test(g.worth);
                case "height":
                    return is.test(p.h[g.y][g.x]);
                case "changed":
                    return is.test(g.changed);
                default:
                    return is.test(f);
            }
        };
    }

    int said(int k) {
        if (said == null || k < -1) {
            return NONE;
        }
        List<Integer> all = new ArrayList<>();
        for (int f = 0; f < s.fields.size(); f++) {
            if (said.of(s, f)) {
                all.add(f);
            }
        }
        return k == -1 ? all.size() : k < all.size() ? all.get(k) : NONE;
    }

    boolean image(int k) {
        if (k < 0 || k > 1) {
            return false;
        }
        images[k] = new Entry();
        images[k].state = s.copy();
        images[k].said = said;
        return true;
    }

    boolean restore(int k) {
        if (k < 0 || k > 1 || images[k] == null) {
            return false;
        }
        s = images[k].state.copy();
        said = images[k].said;
        past.clear();
        return true;
    }

    int count(int what) {
        return what < 0 || what > 6 ? NONE
            : new int[] {s.fields.size(), s.wide, s.high, s.source, s.ice, s.mills.size(), tape.length()}[what];
    }
}
