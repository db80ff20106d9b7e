import java.util.Map;
import java.util.NoSuchElementException;
import java.util.Random;
import java.util.TreeMap;

/** Runs of random calls: BanksDealt and the Model answer alike, all that can be asked between them, too. */
public final class SameAnswersTest {
    private static final int NONE = Model.NONE;
    private static final int DONE = 1000000007;
    private static final Map<String, Integer> CAME = new TreeMap<>();
    private static final int[] RICH = {12, 13, 14, 15, 17, 20, 22, 24};
    private static final String[] NAMED = {"dig", "lay", "roll", "spring", "years", "undo", "", "", "tempted"};
    private static int[] called = new int[64];
    private static int[] meant = new int[64];
    private static int plainsTaken;
    private static int[] faults = new int[5];

    public static void main(String[] args) {
        int runs = args.length > 0 ? Integer.parseInt(args[0]) : 200;
        int from = args.length > 1 ? Integer.parseInt(args[1]) : 0;
        for (int run = from; run < from + runs && !Check.anyWrong(); run++) {
            run(run, new Random(1000 + run));
        }
        Check.due("every method was called", allCalled(), true);
        if (runs >= 100) {
            for (int kind = 0; kind <= 4; kind++) {
                Check.due("FAULTS of kind " + kind + " came", faults[kind] > 20, true);
            }
            Check.due("PLAINS taken", plainsTaken > 300, true);
            for (String s : new String[] {"dig", "lay"}) {
                allCame(s + " 0", s + " 1", s + " 2", s + " 3", s + " -1");
            }
            allCame("roll 0", "roll 1", "roll 2", "roll -1", "spring -1", "spring 3", "years 0", "years 3", "undo 7");
            allCame("tempted 0", "tempted 1", "tempted 2", "tempted 3", "tempted -1", "ran -1", "ran 0", "ran above 0");
            for (int why : new int[] {0, 1, 2, 3, 9, 11, 12, 13, 19, 31, 41, 42, 49}) {
                allCame("why " + why);
            }
            for (String first : new String[] {" none", " ditch", " stone"}) {
                allCame("duel" + first + " none", "duel" + first + " ditch", "duel" + first + " stone");
            }
            allCame("pushed", "pushed ditch", "pushed stone", "pushed ditch ditch", "pushed ditch stone");
            allCame("pushed stone stone");
            allCame("shares when few are left", "shares when all are over");
            allCame("odds when few are left", "odds when all are over");
        }
        Check.end("SameAnswersTest");
    }

    private static void count(String what) {
        CAME.merge(what, 1, Integer::sum);
    }

    /** That the random runs reach what is rare, so that like answers mean something. */
    private static void allCame(String... whats) {
        for (String what : whats) {
            Check.due("'" + what + "' came", CAME.getOrDefault(what, 0) > 0, true);
        }
    }

    private static String work(int k) {
        return k == NONE ? "" : k < 0 ? " none" : k < 36 ? " ditch" : " stone";
    }

    private static boolean allCalled() {
        for (int i = 0; i < 43; i++) {
            if (called[i] == 0 || meant[i] == 0) {
                System.out.println("method " + i + " called " + called[i] + ", answered other than NONE " + meant[i]);
                return false;
            }
        }
        return true;
    }

    private static void feed(BanksDealt b, Model m, String text) {
        int[] bytes = Check.bytesOf(text);
        boolean behind = bytes.length > 0 && bytes.length % 20 == 0;
        if (!behind) {
            Check.due("end(0)", b.end(0), m.end(0));
        } else {
            b.end(0);
            m.end(0);
        }
        for (int i = 0; i < bytes.length; i += 20) {
            int a = Check.fourBytes(bytes, i);
            int c = Check.fourBytes(bytes, i + 4);
            int d = Check.fourBytes(bytes, i + 8);
            int e = Check.fourBytes(bytes, i + 12);
            int f = Check.fourBytes(bytes, i + 16);
            Check.due("feed", b.feed(a, c, d, e, f), m.feed(a, c, d, e, f));
        }
        Check.due("end", b.end(bytes.length), m.end(bytes.length));
    }

    private static void run(int run, Random r) {
        BanksDealt b = new BanksDealt();
        Model m = new Model();
        Texts texts = new Texts(r);
        boolean long1 = run % 10 == 7;
        int calls = 120;
        for (int i = 0; i < calls && !Check.anyWrong(); i++) {
            String name = step(b, m, texts, r, i, long1);
            if (i % 7 == 0) {
                compareAll(b, m, "run " + run + " call " + i + " " + name);
            }
            if (Check.anyWrong()) {
                System.out.println("in run " + run + " behind call " + i + " " + name);
            }
        }
        compareAll(b, m, "run " + run + " at its end");
        if (System.getenv("CAME") != null && run % 50 == 0) {
            System.out.println(CAME);
        }
    }

    private static String step(BanksDealt b, Model m, Texts texts, Random r, int i, boolean long1) {
        int kind = i == 0 ? 0 : long1 ? 12 + r.nextInt(88) : r.nextInt(100);
        String text;
        if (kind < 5) {
            for (int tries = 0; tries < 12; tries++) {
                text = texts.plain();
                feed(b, m, text);
                int want = m.plain();
                Check.due("plain of " + text, b.plain(), want);
                meant[3] += want > 0 ? 1 : 0;
                Check.due("fault of " + text, b.fault(), m.fault());
                faults[m.fault()]++;
                if (want >= 0) {
                    plainsTaken++;
                    break;
                }
            }
            return "plain";
        }
        if (kind < 12) {
            text = texts.sentence();
            feed(b, m, text);
            int want = m.sentence();
            Check.due("sentence of " + text, b.sentence(), want);
            meant[37] += want > 0 ? 1 : 0;
            Check.due("fault of " + text, b.fault(), m.fault());
            faults[m.fault()]++;
            return "sentence " + text;
        }
        if (kind < 20) {
            text = texts.book(m.s.mills.size() > 2 || r.nextInt(4) == 0);
            feed(b, m, text);
            int lives = r.nextInt(20) == 0 ? 2 : r.nextInt(2);
            int want = m.book(lives);
            Check.due("book of " + text, b.book(lives), want);
            meant[35] += want >= NONE ? 1 : 0;
            count("why " + m.told(0));
            Check.due("fault of " + text, b.fault(), m.fault());
            faults[m.fault()]++;
            return "book " + text;
        }
        if (kind < 26) {
            StringBuilder pairs = new StringBuilder();
            int n = r.nextInt(12) == 0 ? r.nextInt(23) : 2 * (1 + r.nextInt(3));
            for (int k = 0; k < n; k++) {
                int f = Math.max(1, m.s.fields.size() + (r.nextInt(20) == 0 ? 1 : 0));
                int whose = r.nextInt(60) == 0 ? 3 : r.nextInt(5);
                if (whose > 2 && whose != 3 || f > 0 && whose == 3 && r.nextInt(10) > 0) {
                    whose = r.nextInt(2);
                }
                pairs.append((char) (k % 2 == 0 ? r.nextInt(f) : whose));
            }
            feed(b, m, pairs.toString());
            int want = m.ran();
            Check.due("ran", b.ran(), want);
            meant[28] += want > 0 ? 1 : 0;
            count(want > 0 ? "ran above 0" : "ran " + want);
            return "ran";
        }
        if (long1 && kind < 50) {
            // Slowly at the end, so that much is asked while few SPRINGS are left.
            int n = m.s.springs < 370 ? 30 : 1 + r.nextInt(5);
            int seed = r.nextInt();
            Check.due("years(" + n + ")", b.years(n, seed), m.years(n, seed));
            return "years";
        }
        int what = r.nextInt(3) == 0 ? RICH[r.nextInt(RICH.length)] : r.nextInt(43);
        if (m.s.springs > 385 && r.nextInt(5) == 0) {
            what = r.nextBoolean() ? 27 : 31;
        }
        int[] a = r.nextInt(8) == 0 ? wild(r) : fitting(m, what, r);
        compare(b, m, what, a);
        return what + "(" + a[0] + ", " + a[1] + ", " + a[2] + ", " + a[3] + ", " + a[4] + ")";
    }

    private static int[] wild(Random r) {
        int[] a = new int[5];
        for (int k = 0; k < 5; k++) {
            int how = r.nextInt(12);
            a[k] = how == 0 ? -1 : how == 1 ? r.nextInt() : how == 2 ? r.nextInt(12) : r.nextInt(how % 2 == 0 ? 2 : 5);
        }
        return a;
    }

    /** Arguments that most often name what there is. */
    private static int[] fitting(Model m, int what, Random r) {
        int x = r.nextInt(m.s.wide);
        int y = r.nextInt(m.s.high);
        int f = r.nextInt(Math.max(1, m.s.fields.size()));
        int seed = r.nextInt(r.nextBoolean() ? 20 : 1 << 30);
        switch (what) {
            case 12:
            case 13:
                return new int[] {m.s.bed[y] < x ? 1 - r.nextInt(9) / 8 : r.nextInt(9) / 8, x, y, 0, 0};
            case 14:
                int mill = r.nextInt(3);
                if (mill < m.s.mills.size() && r.nextInt(3) > 0) {
                    x = m.s.mills.get(mill).x + (r.nextBoolean() ? 1 : -1);
                    y = m.s.mills.get(mill).y;
                }
                return new int[] {mill, x, y, 0, 0};
            case 15:
                return new int[] {seed, 0, 0, 0, 0};
            case 16:
                return new int[] {1 + r.nextInt(r.nextInt(5) == 0 ? 30 : 3), seed, 0, 0, 0};
            case 20:
                return new int[] {f, r.nextInt(2), r.nextInt(2), 0, 0};
            case 24:
                return new int[] {r.nextInt(2), r.nextInt(6) == 0 ? r.nextInt(2) : 2, 0, 0, 0};
            case 27:
                return new int[] {r.nextInt(2), 1 + r.nextInt(10), 1 + r.nextInt(30), seed, 0};
            case 31:
                return new int[] {f, 1 + r.nextInt(10), 1 + r.nextInt(30), r.nextInt(3), seed};
            default:
                return new int[] {r.nextInt(2), x, y, 0, 0};
        }
    }

    private static void compare(BanksDealt b, Model m, int what, int... a) {
        int want = 0;
        int got = 0;
        try {
            want = onModel(m, what, a);
        } catch (NoSuchElementException e) {
            want = DONE;
        }
        try {
            got = onClass(b, what, a);
        } catch (NoSuchElementException e) {
            got = DONE;
        }
        called[what]++;
        if (what >= 12 && what <= 17 || what == 20) {
            count(NAMED[what - 12] + " " + want);
        } else if (what == 22 && want != DONE) {
            count("duel" + work(m.duelAt(0)) + work(m.duelAt(1)));
        } else if (what == 24) {
            count("pushed" + (want == NONE ? " NONE" : work(m.pushedAt(0)) + work(m.pushedAt(1))));
        }
        if ((what == 27 || what == 31) && want != NONE && m.s.springs + a[1] > 400) {
            count((what == 27 ? "shares" : "odds") + (m.s.springs < 400 ? " when few are left" : " when all are over"));
        }
        meant[what] += want != Model.NONE && want != DONE ? 1 : 0;
        if (got != want) {
            Check.due("method " + what + java.util.Arrays.toString(a), got, want);
        } else {
            Check.due("", 0, 0);
        }
    }

    private static void compareAll(BanksDealt b, Model m, String where) {
        for (int what = -1; what <= 7; what++) {
            compare(b, m, 9, what);
            compare(b, m, 42, what);
            compare(b, m, 11, 0, what);
            compare(b, m, 11, 1, what);
            compare(b, m, 36, what);
            compare(b, m, 38, what);
            compare(b, m, 29, what);
            compare(b, m, 30, what);
            compare(b, m, 21, what);
            compare(b, m, 23, what);
            compare(b, m, 25, what);
            for (int f = -1; f <= m.s.fields.size(); f++) {
                compare(b, m, 2, f, what);
            }
            for (int k = -1; k <= 3; k++) {
                compare(b, m, 10, k, what);
            }
            for (int y = -1; y <= 6; y++) {
                compare(b, m, 6, what, y);
                compare(b, m, 7, what, y);
                compare(b, m, 26, what, y);
                compare(b, m, 26, what + 2, y);
            }
        }
        for (int k = -1; k <= 32; k++) {
            compare(b, m, 34, k);
        }
        for (int y = -1; y <= 6; y++) {
            compare(b, m, 8, y);
            compare(b, m, 18, y);
            compare(b, m, 19, y);
            compare(b, m, 33, y);
        }
        if (Check.anyWrong()) {
            System.out.println("in " + where);
        }
    }

    private static int onClass(BanksDealt b, int what, int... given) {
        int[] a = java.util.Arrays.copyOf(given, 5);
        switch (what) {
            case 0: return b.feed(a[0], a[1], a[2], a[3], a[4]);
            case 1: return b.end(a[0]) ? 1 : 0;
            case 2: return b.field(a[0], a[1]);
            case 3: return b.plain();
            case 4: return b.fault();
            case 5: return b.count(a[0]);
            case 6: return b.height(a[0], a[1]);
            case 7: return b.bank(a[0], a[1]);
            case 8: return b.bed(a[0]);
            case 9: return b.now(a[0]);
            case 10: return b.mill(a[0], a[1]);
            case 11: return b.side(a[0], a[1]);
            case 12: return b.dig(a[0], a[1], a[2]);
            case 13: return b.lay(a[0], a[1], a[2]);
            case 14: return b.roll(a[0], a[1], a[2]);
            case 15: return b.spring(a[0]);
            case 16: return b.years(a[0], a[1]);
            case 17: return b.undo();
            case 18: return b.wouldAt(a[0]);
            case 19: return b.wouldBe(a[0]);
            case 20: return b.tempted(a[0], a[1], a[2]);
            case 21: return b.temptedAt(a[0]);
            case 22: return b.duel(a[0]);
            case 23: return b.duelAt(a[0]);
            case 24: return b.pushed(a[0], a[1]);
            case 25: return b.pushedAt(a[0]);
            case 26: return b.ago(a[0], a[1]);
            case 27: return b.shares(a[0], a[1], a[2], a[3]);
            case 28: return b.ran() + b.fault();
            case 29: return b.ranAt(a[0]);
            case 30: return b.sure(a[0]);
            case 31: return b.odds(a[0], a[3], a[1], a[2], a[4]);
            case 32: return b.richest(a[0]);
            case 33: return b.deed(a[0]);
            case 34: return b.byteAt(a[0]);
            case 35: return b.book(a[0]);
            case 36: return b.told(a[0]);
            case 37: return b.sentence();
            case 38: return b.said(a[0]);
            case 39: return b.image(a[0]) ? 1 : 0;
            case 40: return b.restore(a[0]) ? 1 : 0;
            case 41: return b.would();
            default: return b.count(a[0]);
        }
    }

    private static int onModel(Model m, int what, int... given) {
        int[] a = java.util.Arrays.copyOf(given, 5);
        switch (what) {
            case 0: return m.feed(a[0], a[1], a[2], a[3], a[4]);
            case 1: return m.end(a[0]) ? 1 : 0;
            case 2: return m.field(a[0], a[1]);
            case 3: return m.plain();
            case 4: return m.fault();
            case 5: return m.count(a[0]);
            case 6: return m.height(a[0], a[1]);
            case 7: return m.bank(a[0], a[1]);
            case 8: return m.bed(a[0]);
            case 9: return m.now(a[0]);
            case 10: return m.mill(a[0], a[1]);
            case 11: return m.side(a[0], a[1]);
            case 12: return m.dig(a[0], a[1], a[2]);
            case 13: return m.lay(a[0], a[1], a[2]);
            case 14: return m.roll(a[0], a[1], a[2]);
            case 15: return m.spring(a[0]);
            case 16: return m.years(a[0], a[1]);
            case 17: return m.undo();
            case 18: return m.wouldAt(a[0]);
            case 19: return m.wouldBe(a[0]);
            case 20: return m.tempted(a[0], a[1], a[2]);
            case 21: return m.temptedAt(a[0]);
            case 22: return m.duel(a[0]);
            case 23: return m.duelAt(a[0]);
            case 24: return m.pushed(a[0], a[1]);
            case 25: return m.pushedAt(a[0]);
            case 26: return m.ago(a[0], a[1]);
            case 27: return m.shares(a[0], a[1], a[2], a[3]);
            case 28: return m.ran() + m.fault();
            case 29: return m.ranAt(a[0]);
            case 30: return m.sure(a[0]);
            case 31: return m.odds(a[0], a[3], a[1], a[2], a[4]);
            case 32: return m.richest(a[0]);
            case 33: return m.deed(a[0]);
            case 34: return m.byteAt(a[0]);
            case 35: return m.book(a[0]);
            case 36: return m.told(a[0]);
            case 37: return m.sentence();
            case 38: return m.said(a[0]);
            case 39: return m.image(a[0]) ? 1 : 0;
            case 40: return m.restore(a[0]) ? 1 : 0;
            case 41: return m.would();
            default: return m.count(a[0]);
        }
    }
}
