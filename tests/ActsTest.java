/** Promises 13 to 18 and 28: works, rolling, SPRINGS, what is undone. */
public final class ActsTest {
    public static void main(String[] args) {
        digging();
        laying();
        rolling();
        springs();
        draws();
        years();
        over();
        most();
        ago();
        undone();
        undoneKinds();
        Check.end("ActsTest");
    }

    private static void digging() {
        BanksDealt b = Hill.make();
        Check.due("dig on its own bank", b.dig(0, 0, 2), 0);
        Check.due("HEIGHT", b.height(0, 2), 4);
        Check.due("coin", b.side(0, 0), 1);
        Check.due("dig in the BED", b.dig(0, 1, 1), 0);
        Check.due("HEIGHT", b.height(1, 1), 0);
        Check.due("the BED stays", Hill.bed(b), 112);
        Check.due("no coin ahead of the other's bank", b.dig(0, 3, 0), 1);
        Check.due("no coin ahead of HEIGHT 0", b.dig(0, 1, 1), 1);
        Check.due("the other's bank", b.dig(1, 0, 0), 2);
        Check.due("HEIGHT 0", b.dig(1, 1, 1), 3);
        Check.due("coin of the right one", b.side(1, 0), 9);
        BanksDealt c = Check.on("land 4 0 0;");
        Check.due("the other's bank ahead of HEIGHT 0", c.dig(0, 4, 0), 2);
        int[][] none = {{2, 0, 0}, {-1, 0, 0}, {0, -1, 0}, {0, 0, -1}, {0, 4, 0}, {0, 0, 3}};
        for (int[] n : none) {
            Check.due("dig of no such", b.dig(n[0], n[1], n[2]), -1);
            Check.due("lay of no such", b.lay(n[0], n[1], n[2]), -1);
        }
    }

    private static void laying() {
        BanksDealt b = Check.on(Hill.TEXT + "land 3 2 8;land 0 2 9;land 0 0 9;");
        Check.due("lay", b.lay(1, 3, 2), 0);
        Check.due("HEIGHT", b.height(3, 2), 9);
        Check.due("HEIGHT 9", b.lay(1, 3, 2), 3);
        Check.due("the other's bank ahead of HEIGHT 9", b.lay(1, 0, 2), 2);
        Check.due("coin", b.side(1, 0), 8);
        Check.due("works", b.side(1, 3), 1);
        Check.due("lay in the BED", b.lay(0, 1, 0), 0);
        Check.due("lay", b.lay(0, 0, 1), 0);
        Check.due("no coin ahead of all", b.lay(0, 0, 0), 1);
        Check.due("no coin ahead of the other's bank", b.lay(0, 3, 0), 1);
        BanksDealt c = Check.on("purse left 0;purse right 1;");
        Check.due("a purse of 0", c.lay(0, 0, 0), 1);
        Check.due("a purse of 1", c.lay(1, 0, 0), 0);
        Check.due("a purse of 1 again", c.lay(1, 0, 0), 1);
    }

    private static void rolling() {
        BanksDealt b = Hill.make();
        int[][] far = {{0, 1}, {1, 0}, {2, 1}, {1, 2}, {3, 2}};
        for (int[] c : far) {
            Check.due("roll to " + c[0] + " " + c[1], b.roll(0, c[0], c[1]), 1);
        }
        int[][] none = {{2, 0, 0}, {-1, 0, 0}, {0, 4, 1}, {0, 0, 3}, {0, -1, 1}, {3, 0, 0}};
        for (int[] n : none) {
            Check.due("roll of no such", b.roll(n[0], n[1], n[2]), -1);
        }
        Check.due("roll along Y", b.roll(0, 0, 2), 0);
        Check.due("X", b.mill(0, 0), 0);
        Check.due("Y", b.mill(0, 1), 2);
        Check.due("roll along X", b.roll(0, 1, 2), 0);
        Check.due("roll into the BED", b.roll(0, 2, 2), 0);
        Check.due("bank in the BED", b.mill(0, 2), 2);
        Check.due("it sticks", b.roll(0, 1, 2), 2);
        Check.due("not next ahead of sticking", b.roll(0, 0, 2), 1);
        Check.due("how often", b.mill(0, 3), 3);
        Check.due("on another MILL", b.roll(1, 2, 2), 0);
        Check.due("no SIDE worked", b.side(0, 3) + b.side(1, 3), 0);
        Check.due("no coin went", b.side(0, 0), 2);
    }

    private static void springs() {
        BanksDealt b = Hill.make();
        Check.due("how many CHANGED", b.spring(2), 1);
        Check.due("BED", Hill.bed(b), 111);
        Check.due("SPRINGS", b.now(0), 1);
        // 8 of WORTH and a MILL; 15 of WORTH and a MILL
        Check.due("coin of the left one", b.side(0, 0), 2 + 2 + 2);
        Check.due("coin of the right one", b.side(1, 0), 9 + 3 + 2);
        Check.due("the ice goes", b.height(1, 1), 1);
        Check.due("none CHANGED", b.spring(5), 1);
        Check.due("BED", Hill.bed(b), 112);
        Check.due("pea CHANGED", b.field(2, 4), 2);
        // a MILL in the BED earns nothing
        BanksDealt c = Hill.make();
        c.roll(0, 1, 1);
        c.spring(5);
        Check.due("coin without the MILL", c.side(0, 0), 4);
    }

    private static void draws() {
        // by another program: three SPRINGS with a seed, on the PLAIN of a new object
        int[] seeds = {0, 1, 2, 7, -1, Integer.MAX_VALUE, 123456789};
        int[][] beds = {{1223, 12, 1000}, {11, 1110, 1222}, {1100, 0, 110}, {1000, 100, 10}, {1001, 1010, 1},
            {10, 1, 1100}, {10, 1000, 1223}};
        for (int i = 0; i < seeds.length; i++) {
            for (int n = 1; n <= 3; n++) {
                BanksDealt b = new BanksDealt();
                Check.due("YEARS", b.years(n, seeds[i]), n);
                Check.due("BED of seed " + seeds[i] + " behind " + n, Hill.bed(b), beds[i][n - 1]);
            }
            BanksDealt c = new BanksDealt();
            c.spring(seeds[i]);
            Check.due("a SPRING is as a YEAR", Hill.bed(c), beds[i][0]);
        }
    }

    private static void years() {
        BanksDealt b = Hill.make();
        Check.due("years(4, 2)", b.years(4, 2), 4);
        Check.due("BED", Hill.bed(b), 112);
        Check.due("pea CHANGED", b.field(2, 4), 2);
        Check.due("coin of the left one", b.side(0, 0), 2 + 4 * 4);
        Check.due("coin of the right one", b.side(1, 0), 9 + 5 + 5 + 4 + 4);
        Check.due("years(0, 1)", b.years(0, 1), -1);
        Check.due("years(31, 1)", b.years(31, 1), -1);
        Check.due("years(-1, 1)", b.years(-1, 1), -1);
        Check.due("SPRINGS", b.now(0), 4);
        Check.due("years(30, 1)", b.years(30, 1), 30);
        Check.due("SPRINGS", b.now(0), 34);
    }

    private static void over() {
        BanksDealt b = Hill.make();
        for (int i = 0; i < 13; i++) {
            b.years(30, i);
        }
        Check.due("SPRINGS", b.now(0), 390);
        Check.due("as many as are left", b.years(30, 1), 10);
        Check.due("none is left", b.years(1, 1), 0);
        Check.due("SPRINGS", b.now(0), 400);
        Check.due("spring() when all are over", b.spring(1), -1);
        Check.due("undo()", b.undo(), 7);
        Check.due("SPRINGS", b.now(0), 390);
        b.years(9, 1);
        Check.due("the last SPRING", b.spring(5) >= 0, true);
        Check.due("not another", b.spring(5), -1);
        Check.due("still: would()", b.would(), 9);
        Check.due("no YEAR any more: shares()", b.shares(0, 2, 3, 1), 0);
        Check.due("still: odds()", b.odds(0, 0, 2, 3, 1), 3);
    }

    private static void most() {
        // 20 fields' WORTH: 180 of WORTH and 3 MILLS earn 51 a SPRING
        StringBuilder text = new StringBuilder("plain 6 6;ice 0;land 0 5 0;purse right 99;");
        for (int i = 0; i < 9; i++) {
            text.append("field ").append((char) ('a' + i)).append(' ').append(1 + i % 5).append(' ').append(i / 5).append(" 20;");
        }
        text.append("mill x 5 5;mill y 4 4;mill z 1 0;");
        BanksDealt b = Check.on(text.toString());
        b.spring(1);
        Check.due("coin", b.side(1, 0), 99 + 45 + 6);
        b.years(16, 1);
        Check.due("coin", b.side(1, 0), 99 + 51 * 17);
        b.spring(1);
        Check.due("999 at most", b.side(1, 0), 999);
        b.spring(1);
        Check.due("999 at most", b.side(1, 0), 999);
        Check.due("coin of the left one", b.side(0, 0), 9);
        // WORTH of all together is cut, not of each
        BanksDealt c = Check.on("field a 1 0 3;field b 2 0 3;field c 3 0 1;ice 0;");
        c.spring(1);
        Check.due("7 of WORTH", c.side(1, 0), 10);
    }

    private static void ago() {
        BanksDealt b = Hill.make();
        Check.due("ahead of any", b.ago(1, 0), -1);
        b.years(4, 2);
        int[] beds = {122, 110, 111, 112};
        for (int k = 1; k <= 4; k++) {
            for (int y = 0; y < 3; y++) {
                int x = y == 0 ? beds[k - 1] / 100 : y == 1 ? beds[k - 1] / 10 % 10 : beds[k - 1] % 10;
                Check.due("ago(" + k + ", " + y + ")", b.ago(k, y), x);
            }
        }
        Check.due("fewer have been", b.ago(5, 0), -1);
        Check.due("ago(0, 0)", b.ago(0, 0), -1);
        Check.due("ago(-1, 0)", b.ago(-1, 0), -1);
        Check.due("ago(1, 3)", b.ago(1, 3), -1);
        Check.due("ago(1, -1)", b.ago(1, -1), -1);
        b.years(4, 2);
        Check.due("8 are kept", b.ago(8, 2), 2);
        Check.due("8 are kept", b.ago(7, 2), 1);
        b.spring(2);
        Check.due("of 9 the last 8", b.ago(8, 2), 1);
        Check.due("ago(9, 0)", b.ago(9, 0), -1);
        b.undo();
        Check.due("undone", b.ago(8, 2), 2);
    }

    private static void undone() {
        BanksDealt b = Check.on("purse right 99;");
        for (int i = 0; i < 9; i++) {
            b.dig(1, 1 + i % 4, i / 4);
        }
        for (int i = 8; i >= 1; i--) {
            Check.due("undo()", b.undo(), i - 1);
            Check.due("HEIGHT", b.height(1 + i % 4, i / 4), 5);
            Check.due("HEIGHT ahead of it", b.height(1 + (i - 1) % 4, (i - 1) / 4), 4);
            Check.due("works", b.side(1, 3), i);
        }
        Check.due("the ninth is not kept", b.undo(), -1);
        Check.due("HEIGHT", b.height(1, 0), 4);
        b.dig(1, 1, 0);
        Check.due("undo() of another", b.undo(), 0);
        Check.due("HEIGHT", b.height(1, 0), 4);
    }

    private static void undoneKinds() {
        BanksDealt b = Hill.make();
        b.dig(0, 3, 0);
        b.lay(2, 0, 0);
        b.roll(0, 3, 0);
        b.years(0, 1);
        Check.book(b, 0, "spring 1;");
        Check.book(b, 1, "left digs 5 5;spring 1;");
        Check.book(b, 1, "");
        Check.book(b, 1, "spring;");
        Check.due("nothing was done", b.undo(), -1);
        b.roll(0, 0, 0);
        b.lay(0, 0, 0);
        b.spring(2);
        b.years(3, 9);
        Check.book(b, 1, "left digs 0 0;grind rolls 0 1;spring 3;left digs 5 5;");
        Check.sentence(b, "wet");
        Check.due("SPRINGS", b.now(0), 5);
        Check.due("a BOOK as far as it was lived", b.undo(), 4);
        Check.due("SPRINGS", b.now(0), 4);
        Check.due("MILL", b.mill(0, 1), 0);
        Check.due("years()", b.undo(), 3);
        Check.due("SPRINGS", b.now(0), 1);
        Check.due("CHANGED", b.now(4), 1);
        Check.due("spring()", b.undo(), 2);
        Check.due("BED", Hill.bed(b), 112);
        Check.due("CHANGED", b.now(4), 0);
        Check.due("coin", b.side(1, 0), 9);
        Check.due("lay()", b.undo(), 1);
        Check.due("HEIGHT", b.height(0, 0), 5);
        Check.due("roll()", b.undo(), 0);
        Check.due("Y", b.mill(0, 1), 1);
        Check.due("how often", b.mill(0, 3), 0);
        Check.due("undo()", b.undo(), -1);
        Check.due("the SENTENCE stays", b.said(0), 2);
    }
}
