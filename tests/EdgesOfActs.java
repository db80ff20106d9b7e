/** Edges of the BED and the banks, of works and rolling, of SPRINGS and YEARS, of what is undone. */
final class EdgesOfActs {
    private static final String FLAT = "plain 5 5;";
    /** The BED of FLAT at first and behind each of 18 YEARS with 7, by another program. */
    private static final int[] BEDS = {0, 1000, 100, 10, 0, 1000, 1, 12, 0, 1010, 0, 100, 1234, 0, 122, 110, 1, 1, 110};
    /** The BED is 1 0; a is wet, b and c are the right one's, d is the left one's. */
    private static final String MOVING = "plain 3 2;source 1;ice 0;land 0 1 4;field a 0 1 1;field b 1 1 2;field c 2 1 3;"
        + "field d 0 0 4;purse left 99;purse right 99;";

    private EdgesOfActs() {
    }

    static void all() {
        beds();
        leastBeds();
        banks();
        digging();
        laying();
        noSuch();
        rolling();
        over();
        draws();
        ago();
        changed();
        coins();
        mostCoins();
        howMany();
        years();
        undoneUpTo8();
        undoneKinds();
        notUndone();
    }

    private static void beds() {
        Edge.by("==== 2.", "in the first row the SOURCE, in each other one a cell whose X is as in the row ahead of it, 1 less or 1 more");
        Edge.on("plain 6 2;source 2;land 0 1 0;land 4 1 0;").bed(21);
        Edge.on("plain 6 2;source 2;land 1 1 4;").bed(21);
        Edge.on("plain 6 2;source 2;land 2 1 4;").bed(22);
        Edge.on("plain 6 2;source 2;land 3 1 4;").bed(23);
        Edge.on("plain 6 3;source 2;land 4 2 0;").bed(234);
        Edge.on("plain 6 3;source 2;land 5 2 0;").bed(210);
        // at both walls, with the least HEIGHT behind the other one
        Edge.on("plain 6 2;source 0;land 5 1 0;").bed(0);
        Edge.on("plain 6 2;source 0;land 1 1 4;land 5 1 0;").bed(1);
        Edge.on("plain 6 3;source 5;land 0 1 0;land 0 2 0;").bed(543);
        Edge.on("plain 6 3;source 5;land 5 1 4;land 5 2 3;land 0 2 0;").bed(555);
        Edge.on("plain 3 2;source 2;land 0 1 0;").bed(21);
        Edge.on("plain 3 2;source 0;land 2 1 0;").bed(0);
        Edge.on("plain 3 2;source 1;land 0 0 0;land 2 0 0;").bed(10);
    }

    private static void leastBeds() {
        Edge.by("==== 2.", "at first in that of the least HEIGHTS in all, of like ones the first: row by row the least X");
        Edge.on("plain 6 6;source 5;").bed(543210).due("now 2", 30);
        Edge.on("plain 6 6;").bed(0);
        // 5 and 0 are less than 4 and 5; like sums by another row; like sums from the first row on
        Edge.on("plain 5 3;source 2;land 1 1 4;land 4 2 0;").bed(234).due("now 2", 10);
        Edge.on("plain 3 3;source 1;land 0 1 6;land 2 2 3;").bed(112).due("now 2", 13);
        Edge.on("plain 3 3;source 1;land 0 1 6;land 0 2 4;").bed(110);
        Edge.on("plain 3 3;source 1;land 2 1 4;land 0 2 4;").bed(100).due("now 2", 14);
        Edge.on("plain 3 3;source 1;land 2 1 3;land 0 2 4;").bed(121).due("now 2", 13);
        Edge.on("plain 3 3;source 1;land 2 1 4;land 0 2 5;land 1 2 5;land 2 2 4;").bed(122).due("now 2", 13);
    }

    private static void banks() {
        Edge.by("==== 2.", "Cells of less X in their row are on the left bank, those of more X on the right one, the BED's on none.");
        int[] beds = {10, 11, 12, 21};
        String[] lands = {"0 1 4", "1 1 4", "2 1 4", "1 1 4"};
        for (int i = 0; i < 4; i++) {
            Edge e = Edge.on("plain 3 2;source " + beds[i] / 10 + ";land " + lands[i] + ";").bed(beds[i]);
            for (int c = 0; c < 6; c++) {
                int bed = c < 3 ? beds[i] / 10 : beds[i] % 10;
                e.due("bank " + c % 3 + " " + c / 3, c % 3 < bed ? 0 : c % 3 > bed ? 1 : 2);
            }
        }
        Edge.by("==== 2.", "A FIELD is whose bank it is on; wet, if it is in the BED.");
        Edge e = Edge.on(MOVING);
        e.due("field 0 3", 2).due("field 1 3", 1).due("field 2 3", 1).due("field 3 3", 0);
        e.due("side 0 1", 8).due("side 1 1", 6).due("now 1", 1);
    }

    private static void digging() {
        Edge.by("==== 2.", "To DIG a cell: why not, the least: 1 that SIDE has no coin; 2 it is on the other one's bank; 3 its HEIGHT is 0:");
        // the BED is 1 0; 0 1 and 1 1 are of HEIGHT 0
        Edge e = Edge.on("plain 3 2;source 1;land 0 1 0;land 1 1 0;land 2 1 1;land 0 0 0;purse left 1;purse right 0;").bed(10);
        e.refused("dig 0 0 1", 3).refused("dig 0 0 0", 3).refused("dig 0 1 1", 2).refused("dig 0 2 1", 2);
        e.refused("dig 0 2 0", 2).refused("dig 1 2 1", 1).refused("dig 1 0 1", 1).refused("dig 1 0 0", 1);
        e.due("dig 0 1 0", 0).refused("dig 0 1 0", 1).refused("dig 0 1 1", 1).refused("dig 0 0 1", 1);
        e.due("side 0 0", 0).due("side 0 3", 1).due("height 1 0", 4);
        Edge one = Edge.on("land 4 0 1;").due("dig 1 4 0", 0).due("height 4 0", 0).refused("dig 1 4 0", 3);
        one.due("side 1 0", 8).due("side 1 3", 1).due("lay 1 4 0", 0).due("dig 1 4 0", 0);
        Edge.by("==== 2.", "the SIDE's coin is 1 less, the HEIGHT 1 less");
        Edge f = Edge.on("land 4 0 9;purse right 1;").changing("dig 1 4 0", 0, "height 4 0", "side 1 0", "side 1 3", "undone");
        f.due("height 4 0", 8).due("side 1 0", 0).due("side 1 3", 1).due("undo", 0).due("side 1 0", 1);
        Edge.by("Promise 13", "A SIDE DIGS a cell: 0, or why not;");
        Edge.on(MOVING).due("dig 0 0 0", 0).due("dig 0 0 1", 0).due("dig 1 0 1", 0).due("dig 1 2 1", 0).due("dig 1 0 0", 2);
    }

    private static void laying() {
        Edge.by("==== 2.", "To LAY a stone: 1, 2 likewise; 3 its HEIGHT is 9: coin 1 less, HEIGHT 1 more.");
        Edge e = Edge.on("plain 3 2;source 1;land 0 1 9;land 1 1 9;land 2 1 9;land 0 0 9;purse left 1;purse right 0;").bed(10);
        e.refused("lay 0 0 1", 3).refused("lay 0 0 0", 3).refused("lay 0 1 1", 2).refused("lay 0 2 1", 2);
        e.refused("lay 0 2 0", 2).refused("lay 1 2 1", 1).refused("lay 1 0 1", 1).refused("lay 1 0 0", 1);
        e.due("lay 0 1 0", 0).refused("lay 0 1 0", 1).refused("lay 0 1 1", 1).refused("lay 0 0 1", 1);
        e.due("side 0 0", 0).due("side 0 3", 1).due("height 1 0", 6);
        Edge one = Edge.on("land 4 0 8;").due("lay 1 4 0", 0).due("height 4 0", 9).refused("lay 1 4 0", 3);
        one.due("side 1 0", 8).due("side 1 3", 1).due("dig 1 4 0", 0).due("lay 1 4 0", 0);
        Edge f = Edge.on("land 4 0 0;purse right 1;").changing("lay 1 4 0", 0, "height 4 0", "side 1 0", "side 1 3", "undone");
        f.due("height 4 0", 1).due("side 1 0", 0).due("side 1 3", 1);
        Edge.by("Promise 14", "A SIDE LAYS a stone: 0, or why not;");
        Edge.on(MOVING).due("lay 0 0 0", 0).due("lay 0 0 1", 0).due("lay 1 0 1", 0).due("lay 1 2 1", 0).due("lay 1 0 0", 2);
    }

    private static void noSuch() {
        for (String act : new String[] {"dig", "lay"}) {
            Edge.by(act.equals("dig") ? "Promise 13" : "Promise 14", "NONE: no such ones");
            Edge.on(MOVING).outside(act + " 0 0 0", -1, 0, 1, 0, 2, 0, 1).outside(act + " 1 2 1", -1, 0, 1, 0, 2, 0, 1);
            Edge.on("plain 6 6;purse left 0;").outside(act + " 0 5 5", -1, 0, 1, 0, 5, 0, 5).due(act + " 0 5 5", 1);
            new Edge().outside(act + " 1 4 4", -1, 0, 1, 0, 4, 0, 4).due(act + " 1 4 4", 0).due(act + " 0 0 4", 0);
        }
        Edge.by("Promise 15", "NONE: no such ones");
        Edge.on(MOVING + "mill x 2 0;").outside("roll 0 2 0", -1, 0, 0, 0, 2, 0, 1).refused("roll 0 2 0", 1);
        Edge.on("plain 6 6;mill x 5 5;mill y 5 5;mill z 5 5;").outside("roll 2 5 4", -1, 0, 2, 0, 5, 0, 5).due("roll 2 5 4", 0);
        new Edge().refused("roll 0 0 0", -1).refused("roll 0 1 0", -1);
    }

    private static void rolling() {
        Edge.by("==== 2.", "1 the cell is not next to its own (by X or Y);");
        // the BED is 0 0 0; near x in the numbering, but not next to it, are the cells at the other wall
        Edge e = Edge.on("plain 6 3;mill x 5 1;mill y 0 0;mill z 3 1;").bed(0);
        for (String cell : new String[] {"5 1", "4 0", "4 2", "0 1", "0 2", "3 1", "0 0", "1 1"}) {
            e.refused("roll 0 " + cell, 1);
        }
        for (String cell : new String[] {"5 0", "5 2", "4 1"}) {
            Edge f = Edge.on("plain 6 3;mill x 5 1;").changing("roll 0 " + cell, 0, "mill 0", "undone");
            f.due("mill 0 0", cell.charAt(0) - '0').due("mill 0 1", cell.charAt(2) - '0').due("mill 0 3", 1);
        }
        Edge.on("plain 6 3;mill x 3 1;").due("roll 0 4 1", 0).due("roll 0 4 2", 0).refused("roll 0 3 1", 1).due("mill 0 3", 2);
        Edge.on("plain 3 3;mill x 2 0;").refused("roll 0 0 1", 1).refused("roll 0 0 0", 1).due("roll 0 2 1", 0);
        Edge.by("==== 2.", "2 the MILL is in the BED (it sticks there; the cell to which it rolls may be in the BED): it stands on that cell");
        e.refused("roll 1 1 0", 2).refused("roll 1 0 1", 2).refused("roll 1 1 1", 1).refused("roll 1 0 0", 1);
        e.due("roll 2 2 1", 0).due("roll 2 1 1", 0).due("roll 2 0 1", 0).due("mill 2 2", 2).due("mill 2 3", 3);
        e.refused("roll 2 1 1", 2).refused("roll 2 0 0", 2).refused("roll 2 0 2", 2).refused("roll 2 2 1", 1);
        Edge.by("Promise 15", "A MILL ROLLS: 0, or why not;");
        // several may stand on one cell, and no coin is asked
        Edge g = Edge.on("mill x 2 2;mill y 3 2;purse left 0;purse right 0;").due("roll 0 3 2", 0).due("mill 0 0", 3);
        g.due("roll 1 3 3", 0).due("mill 1 1", 3).due("side 0 3", 0).due("side 1 3", 0);
    }

    private static void over() {
        Edge.by("==== 2.", "(0 to 399 have been; 400: all are over)");
        Edge e = Edge.on("plain 3 2;ice 5;field a 1 1 1;");
        e.due("now 0", 0);
        for (int i = 0; i < 399; i++) {
            e.due("years 1 " + i, 1);
        }
        e.due("now 0", 399).due("spring 2", 0).due("now 0", 400);
        Edge.by("Promise 16", "NONE: all are over");
        e.refused("spring 1", -1).refused("spring MIN", -1).due("now 0", 400).due("undo", 7).due("now 0", 399);
        e.due("spring 2", 0).due("undo", 7).due("years 2 2", 1).due("now 0", 400).refused("spring 1", -1);
    }

    private static void draws() {
        Edge.by("==== 2.", "(for each draw of n x becomes x * 1103515245 + 12345, an int, wrapping; the draw is (x >>> 8) % n)");
        // by another program, on 5 by 5 with the SOURCE 2, for 'ice' 0 to 5
        String[] seeds = {"0", "1", "MAX", "MIN", "-1"};
        int[][] beds = {{21000, 21000, 21000, 21000, 21000}, {21101, 21000, 23221, 21101, 23221},
            {22323, 21011, 23332, 21010, 22101}, {21101, 23321, 23221, 21101, 23221}, {21012, 21101, 21122, 21123, 22234},
            {21211, 22111, 23332, 22344, 21001}};
        for (int ice = 0; ice <= 5; ice++) {
            for (int i = 0; i < seeds.length; i++) {
                String plain = "source 2;ice " + ice + ";";
                Edge.on(plain).due("spring " + seeds[i], 0).bed(beds[ice][i]);
                Edge.on(plain).due("years 1 " + seeds[i], 1).bed(beds[ice][i]);
            }
        }
        Edge.by("==== 2.", "so much ice; the river takes the BED of the least HEIGHTS and ice in all, of like ones the first, likewise; the ice goes.");
        Edge e = Edge.on("source 2;ice 5;").due("would", 25).changing("spring MIN", 0, "bed", "bank", "now 0", "now 2", "now 3",
            "ago", "undone");
        e.bed(22344).due("now 2", 25).due("would", 25).due("wouldAt 4", 0).due("undo", 0).bed(21000);
    }

    private static void ago() {
        Edge.by("==== 2.", "(The BEDS of the last 8 SPRINGS, those ahead of them, are kept.)");
        for (int n = 0; n <= 18; n++) {
            Edge e = Edge.on(FLAT);
            if (n > 0) {
                e.due("years " + n + " 7", n);
            }
            e.bed(BEDS[n]);
            for (int k = 0; k <= 9; k++) {
                for (int y = 0, power = 10000; y < 5; y++, power /= 10) {
                    boolean kept = k >= 1 && k <= 8 && k <= n;
                    e.due("ago " + k + " " + y, kept ? BEDS[n - k] / power % 10 : -1);
                }
            }
        }
        Edge.by("Promise 28", "NONE: fewer have been, no such ones");
        Edge.on(FLAT).due("years 18 7", 18).outside("ago 1 0", -1, 1, 8, 0, 4).outside("ago 8 4", -1, 1, 8, 0, 4);
        Edge.on(FLAT).due("years 3 7", 3).outside("ago 3 4", -1, 1, 3, 0, 4).due("undo", 0).outside("ago 1 0", -1, 1, 0, 0, 4);
        Edge.on("plain 3 2;").due("spring 1", 0).outside("ago 1 1", -1, 1, 1, 0, 1);
        Edge.on(FLAT).due("years 9 7", 9).text("plain", FLAT, 1).due("ago 1 0", -1).due("spring 7", 0).due("ago 1 1", 0);
    }

    private static void changed() {
        Edge.by("==== 2.", "Each FIELD that is another one's then, or wet, or not any more, CHANGED once more.");
        Edge e = Edge.on(MOVING).due("spring 0", 0).due("spring 0", 0).due("now 4", 0);
        // wet to left, right to left, right to wet, none
        e.due("dig 1 2 1", 0).due("dig 1 2 1", 0).due("spring 0", 3).bed(12);
        e.due("field 0 4", 1).due("field 1 4", 1).due("field 2 4", 1).due("field 3 4", 0);
        // none, left to wet, wet to right
        e.due("spring 0", 0).due("dig 0 1 1", 0).due("dig 0 1 1", 0).due("dig 0 1 1", 0).due("spring 0", 2).bed(11);
        e.due("field 0 4", 1).due("field 1 4", 2).due("field 2 4", 2);
        // left to wet, wet to right, none
        e.due("dig 0 0 1", 0).due("dig 0 0 1", 0).due("spring 0", 2).bed(10);
        e.due("field 0 4", 2).due("field 1 4", 3).due("field 2 4", 2).due("field 3 4", 0).due("now 4", 7);
        // left to right in one SPRING
        Edge f = Edge.on(MOVING.replace("land 0 1 4", "land 2 1 4")).bed(12).due("field 1 3", 0);
        f.due("dig 0 0 1", 0).due("dig 0 0 1", 0).due("years 2 0", 2).bed(10).due("field 1 3", 1).due("field 1 4", 1);
        f.due("now 4", 3);
    }

    private static void coins() {
        Edge.by("==== 2.", "Then each SIDE has a coin for each 4 of WORTH that is its (cut),");
        for (int worth = 1; worth <= 20; worth++) {
            Edge.on("ice 0;field a 1 0 " + worth + ";").due("spring 1", 0).due("side 1 0", 9 + worth / 4).due("side 0 0", 9);
            Edge left = Edge.on("plain 3 2;source 2;ice 0;field a 0 0 " + worth + ";").due("years 2 1", 2);
            left.due("side 0 0", 9 + worth / 4 * 2).due("side 1 0", 9);
        }
        Edge.on("ice 0;field a 1 0 3;field b 2 0 3;field c 3 0 1;").due("spring 1", 0).due("side 1 0", 10);
        Edge.on("ice 0;field a 1 0 2;field b 2 0 2;field c 3 0 4;").due("spring 1", 0).due("side 1 0", 11);
        Edge.on("ice 0;field a 0 0 20;field b 1 0 3;").due("spring 1", 0).due("side 0 0", 9).due("side 1 0", 9);
        // by the banks that are then: 1 and 2 and 4 are the left one's, none the right one's
        Edge moved = Edge.on(MOVING).due("dig 1 2 1", 0).due("dig 1 2 1", 0).due("side 1 2", 5).due("spring 0", 3);
        moved.due("side 0 2", 7).due("side 0 0", 99 + 1).due("side 1 2", 0).due("side 1 0", 97);
        Edge.by("==== 2.", "and 2 for each MILL on its bank");
        String two = "plain 3 2;source 1;ice 0;";
        Edge.on(two).due("spring 1", 0).due("side 0 0", 9).due("side 1 0", 9);
        Edge.on(two + "mill x 0 0;").due("spring 1", 0).due("side 0 0", 11).due("side 1 0", 9);
        Edge.on(two + "mill x 1 0;mill y 0 1;").due("spring 1", 0).due("side 0 0", 9).due("side 1 0", 9);
        Edge.on(two + "mill x 2 0;mill y 0 0;mill z 2 0;").due("spring 1", 0).due("side 0 0", 11).due("side 1 0", 13);
        Edge.on(two + "mill x 2 0;mill y 2 1;mill z 1 1;").due("spring 1", 0).due("side 0 0", 9).due("side 1 0", 15);
        Edge.on(two + "mill x 2 0;field a 2 1 7;").due("spring 1", 0).due("side 1 0", 12);
    }

    /** Ten FIELDS of WORTH 20 in two rows from this X on. */
    private static String ten(int from) {
        StringBuilder text = new StringBuilder();
        for (int f = 0; f < 10; f++) {
            text.append("field ").append((char) ('a' + f)).append(' ').append(from + f % 5).append(' ').append(f / 5);
            text.append(" 20;");
        }
        return text.toString();
    }

    private static void mostCoins() {
        Edge.by("==== 2.", "(999 at most)");
        for (int s = 0; s < 2; s++) {
            String bank = s == 1 ? "plain 6 2;ice 0;" + ten(1) : "plain 6 2;ice 0;source 5;land 5 1 4;" + ten(0);
            String purse = "purse " + (s == 0 ? "left " : "right ");
            String coin = "side " + s + " 0";
            Edge e = Edge.on(bank + purse + "99;").due("side " + s + " 2", 200).due("years 17 1", 17).due(coin, 949);
            e.due("spring 1", 0).due(coin, 999).due("spring 1", 0).due(coin, 999).due("years 30 1", 30).due(coin, 999);
            Edge f = Edge.on(bank + purse + "98;").due("years 18 1", 18).due(coin, 998).due("spring 1", 0).due(coin, 999);
            String own = s == 0 ? " 0 0" : " 5 0";
            f.due("dig " + s + own, 0).due(coin, 998).due("spring 1", 0).due(coin, 999).due("undo", 3).due(coin, 998);
            Edge.on(bank + purse + "0;").due("years 20 1", 20).due(coin, 999).due("side " + (1 - s) + " 0", 9);
            Edge.on(bank + purse + "0;").due("years 19 1", 19).due(coin, 950);
        }
    }

    private static void howMany() {
        Edge.by("Promise 16", "A SPRING with a seed: how many FIELDS CHANGED;");
        // the BED is 2 1 1 1 1 1, and 2 3 3 3 3 3 with a ditch in 3 1; the FIELDS are in both
        StringBuilder text = new StringBuilder("plain 6 6;source 2;ice 0;");
        for (int y = 1; y < 6; y++) {
            for (int x = 0; x < 6; x++) {
                text.append("land ").append(x).append(' ').append(y).append(x == 1 || x == 3 ? " 4;" : " 9;");
            }
            text.append("field ").append((char) ('a' + y)).append(" 1 ").append(y).append(" 1;");
            text.append("field ").append((char) ('k' + y)).append(" 3 ").append(y).append(" 1;");
        }
        Edge e = Edge.on(text.toString()).bed(211111).due("spring 1", 0).due("dig 1 3 1", 0).due("spring 1", 10).bed(233333);
        e.due("now 4", 10).due("spring 1", 0).due("now 4", 10).due("lay 1 3 1", 0).due("spring 1", 10).due("now 4", 20);
        for (int f = 0; f < 10; f++) {
            e.due("field " + f + " 4", 2);
        }
        new Edge().due("spring 1", 0);
    }

    private static void years() {
        Edge.by("==== 2.", "YEARS: SPRINGS one behind the other, the draws going on.");
        for (int n = 1; n <= 18; n++) {
            Edge.on(FLAT).due("years " + n + " 7", n).bed(BEDS[n]).due("now 0", n);
        }
        Edge.on(FLAT).due("spring 7", 0).due("spring 7", 0).bed(BEDS[1]);
        Edge.on(FLAT).due("years 2 7", 2).due("years 1 7", 1).bed(BEDS[1]).due("ago 1 2", 1).due("ago 2 1", 1);
        Edge.by("Promise 17", "n (1 to 30) YEARS with a seed: how many SPRINGS came; NONE: not as told");
        Edge e = Edge.on(MOVING).outside("years 1 5", -1, 1, 30, Integer.MIN_VALUE, Integer.MAX_VALUE);
        e.due("years 1 MIN", 1).due("years 30 MAX", 30).due("now 0", 31).refused("years 0 0", -1).refused("years 31 31", -1);
        for (int i = 0; i < 11; i++) {
            e.due("years 30 " + i, 30);
        }
        e.due("now 0", 361).due("years 30 0", 30).due("undo", 7).due("years 10 0", 10).due("years 30 0", 29).due("undo", 7);
        e.due("years 28 0", 28).due("now 0", 399).due("years 30 0", 1).due("undo", 7).due("years 2 0", 1).due("now 0", 400);
        e.refused("years 1 0", 0).refused("years 30 0", 0).refused("years 0 0", -1).refused("years 31 0", -1);
        e.due("undo", 7).due("now 0", 399).due("years 1 0", 1).due("now 0", 400);
    }

    private static final String ACTS = MOVING + "mill x 2 0;land 2 0 3;";

    /** The i-th of acts of all kinds, each of which can be done. */
    private static void act(Edge e, int i) {
        switch (i % 6) {
            case 0:
                e.due("dig 0 0 0", 0);
                break;
            case 1:
                e.due("lay 1 2 1", 0);
                break;
            case 2:
                e.due("roll 0 2 " + (1 - i / 6 % 2), 0);
                break;
            case 3:
                e.due("spring " + i, 0);
                break;
            case 4:
                e.due("years 3 " + i, 3);
                break;
            default:
                e.text("book 1", "spring 1;left digs 5 5;", 1);
        }
    }

    private static Edge acted(int n) {
        Edge e = Edge.on(ACTS);
        for (int i = 0; i < n; i++) {
            act(e, i);
        }
        return e;
    }

    private static void undoneUpTo8() {
        Edge.by("Promise 18", "how many more can be (8 at most are kept); NONE: none is");
        for (int n = 0; n <= 18; n++) {
            Edge e = acted(n);
            int most = Math.min(n, 8);
            for (int k = 1; k <= most; k++) {
                e.due("undo", most - k).same(acted(n - k), "told", "undone");
            }
            e.refused("undo", -1).refused("undo", -1);
        }
        // undone ones make room again
        Edge e = acted(8).due("undo", 7).due("undo", 6);
        act(e, 6);
        act(e, 7);
        act(e, 8);
        e.due("undo", 7).same(acted(8), "told", "undone").due("undo", 6).due("undo", 5).due("undo", 4).due("undo", 3);
        e.due("undo", 2).due("undo", 1).due("undo", 0).same(acted(1), "told", "undone").refused("undo", -1);
    }

    private static void undoneKinds() {
        Edge.by("Promise 18", "The latest of dig(), lay(), roll() that was done, spring() that was not NONE, years() above 0, a BOOK of which a LINE was lived is undone");
        for (int kind = 0; kind < 6; kind++) {
            Edge e = Edge.on(ACTS);
            act(e, kind);
            e.due("undo", 0).same(Edge.on(ACTS), "told").refused("undo", -1);
        }
        Edge e = Edge.on(ACTS).due("years 30 3", 30).text("book 1", "years 30;years 30;years 30;years 30;", -1).due("now 0", 150);
        e.due("undo", 1).due("now 0", 30).due("undo", 0).due("now 0", 0).due("undo", -1).due("now 0", 0);
    }

    private static void notUndone() {
        Edge.by("Promise 18", "NONE: none is");
        new Edge().refused("undo", -1);
        Edge e = Edge.on(ACTS).refused("undo", -1);
        // what is asked, refused, judged, or a BOOK of which no LINE was lived, can't be undone
        String[] asked = {"dig 0 2 0", "lay 1 0 0", "roll 0 0 0", "years 0 0", "years 31 0", "would", "duel 0", "pushed 0 2",
            "tempted 0 0 1", "shares 0 10 30 1", "odds 0 0 10 30 1", "deed 0", "image 0", "said 0", "restore 1"};
        for (String call : asked) {
            Edge f = Edge.on(ACTS).due("dig 0 0 0", 0).due(call, answerOf(call));
            f.due("undo", 0).due("undo", -1);
        }
        e.text("book 0", "spring 1;", -1).refused("undo", -1).text("book 1", "", -1).refused("undo", -1);
        e.text("book 1", "left digs 5 5;spring 1;", 0).refused("undo", -1).text("book 1", "spring", -8).refused("undo", -1);
        e.text("sentence", "wet", 1).refused("undo", -1).due("said 0", 0);
        e.due("dig 0 0 0", 0).text("plain", ACTS, 12).refused("undo", -1).due("height 0 0", 5);
    }

    private static long answerOf(String call) {
        return Edge.on(ACTS).due("dig 0 0 0", 0).ask(call);
    }
}
