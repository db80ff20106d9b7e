/** Edges of what would be: WOULD, TEMPTED, DUEL, PUSHED, shares and odds; and of what may have been: RAN. */
final class EdgesOfPlans {
    private static final int NONE = -1;
    private static final int NO_WORK = -2;
    private static final int STONE = 36;
    /** BEDS of three YEARS with MAX, by another program: 555433 554343 543232; with MIN: 545433 543321; MIN and 1: 543443. */
    private static final String ICY = "plain 6 6;source 5;ice 5;field a 4 1 3;field b 3 5 20;";
    /** The BED is 1 0 and stays so: 7 is the left one's, 20 the right one's, 5 is wet. */
    private static final String STILL = "plain 3 2;source 1;ice 0;field a 0 0 7;field b 2 0 20;field c 1 0 5;";
    private static final String BEDS = "plain 3 2;source 2;field a 1 1 1;field b 0 0 1;";

    private EdgesOfPlans() {
    }

    static void all() {
        would();
        wouldAnswers();
        temptedByStones();
        temptedByDitches();
        temptedWhereItMay();
        temptedRefused();
        duel();
        duelByCoin();
        duelByHeights();
        duelOrder();
        duelRefused();
        pushed();
        pushedOrder();
        pushedRefused();
        ran();
        ranFirst();
        ranRefused();
        shares();
        sharesAtTheEnd();
        odds();
        oddsAtTheEnd();
    }

    /**
     * Two ways down from 1 0: X 0 by the left HEIGHTS, X 2 by the right ones, 9 in between; at the foot of the middle
     * one is a, of WORTH 7: the right one's, if the river takes X 0, as it does of like sums, else the left one's.
     */
    private static String columns(String left, String right) {
        int rows = left.length();
        StringBuilder text = new StringBuilder("plain 3 " + (rows + 1) + ";source 1;ice 0;");
        for (int y = 1; y <= rows; y++) {
            text.append("land 0 ").append(y).append(' ').append(left.charAt(y - 1)).append(';');
            text.append("land 1 ").append(y).append(" 9;");
            text.append("land 2 ").append(y).append(' ').append(right.charAt(y - 1)).append(';');
        }
        return text + "field a 1 " + rows + " 7;";
    }

    /** The works by the latest call, and NONE behind them. */
    private static void at(Edge e, String name, int... works) {
        for (int k = 0; k < works.length; k++) {
            e.due(name + " " + k, works[k]);
        }
        e.due(name + " " + works.length, NONE);
    }

    private static void tempted(Edge e, String call, int... cells) {
        e.due("tempted " + call, cells.length);
        at(e, "temptedAt", cells);
    }

    private static void pushed(Edge e, String call, int worth, int... works) {
        e.due("pushed " + call, worth);
        at(e, "pushedAt", works);
    }

    private static void duel(Edge e, int side, int lead, int first, int reply) {
        e.due("duel " + side, lead);
        at(e, "duelAt", first, reply);
    }

    private static void would() {
        Edge.by("==== 3.", "WOULD: the BED that it would take in a SPRING without ice.");
        Edge e = Edge.on(ICY).due("spring MAX", 2).bed(555433).due("would", 30);
        for (int y = 0; y < 6; y++) {
            e.due("wouldAt " + y, 5 - y);
        }
        // a ditch beside its way leads it there, a stone on its source costs, a SPRING does not
        e.due("dig 1 5 1", 0).due("would", 29).due("wouldAt 1", 5).due("wouldAt 5", 1).due("lay 0 5 0", 0).due("would", 30);
        Edge.that("the SPRING came", e.ask("spring MIN") >= 0 ? 1 : 0, 1);
        e.due("would", 30).due("wouldAt 1", 5);
        Edge.on("plain 3 3;source 1;land 0 1 6;land 2 2 3;").due("would", 13).due("wouldAt 1", 1).due("wouldAt 2", 2);
        Edge.by("Promise 19", "WOULD: HEIGHTS of that BED in all");
        StringBuilder least = new StringBuilder("plain 6 6;");
        StringBuilder most = new StringBuilder("plain 6 6;");
        for (int c = 0; c < 36; c++) {
            least.append("land ").append(c % 6).append(' ').append(c / 6).append(" 0;");
            most.append("land ").append(c % 6).append(' ').append(c / 6).append(" 9;");
        }
        Edge.on(least.toString()).due("would", 0).due("now 2", 0).due("spring 1", 0).due("would", 0).refused("would", 0);
        Edge.on(most.toString()).due("would", 54).due("now 2", 54).refused("would", 54);
    }

    private static void wouldAnswers() {
        Edge.by("Promise 20", "X of it in a row; NONE: no such one");
        Edge.on(ICY).outside("wouldAt 0", NONE, 0, 5).refused("wouldAt 0", 5).refused("wouldAt 5", 0);
        Edge.on("plain 3 2;source 1;").outside("wouldAt 0", NONE, 0, 1).due("wouldAt 1", 0);
        new Edge().outside("wouldAt 4", NONE, 0, 4).due("wouldAt 4", 0);
        // of the HEIGHTS that are now, whatever was asked before, and if nothing was
        Edge at = Edge.on(columns("44", "44")).due("dig 1 2 1", 0).due("wouldAt 1", 2).due("undo", 0).due("wouldAt 1", 0);
        at.due("lay 0 0 1", 0).due("would", 9 + 4).due("undo", 0).due("would", 9 + 4).due("dig 1 2 1", 0).due("would", 9 + 3);
        Edge.by("Promise 21", "FIELDS that would be a SIDE's (2: wet) behind such a SPRING, as bits; NONE: no such ones");
        Edge e = Edge.on(columns("44", "44") + "field b 0 0 1;field c 1 0 1;field d 0 2 1;field e 2 2 1;");
        e.due("wouldBe 0", 2).due("wouldBe 1", 1 + 16).due("wouldBe 2", 4 + 8).due("dig 1 2 1", 0);
        e.due("wouldBe 0", 1 + 2 + 8).due("wouldBe 1", 0).due("wouldBe 2", 4 + 16).outside("wouldBe 0", NONE, 0, 2);
        e.refused("wouldBe 2", 20).due("side 0 1", 2).due("side 1 1", 17).due("spring 0", 3).due("side 0 1", 11);
        Edge be = Edge.on(columns("44", "44")).due("dig 1 2 1", 0).due("wouldBe 0", 1).due("undo", 0).due("wouldBe 1", 1);
        be.due("spring 0", 0).due("lay 0 0 1", 0).due("wouldBe 0", 1);
        new Edge().due("wouldBe 0", 0).due("wouldBe 1", 0).due("wouldBe 2", 0).due("wouldBe 3", NONE);
        StringBuilder ten = new StringBuilder("plain 6 2;ice 0;");
        for (int f = 0; f < 10; f++) {
            ten.append("field ").append((char) ('a' + f)).append(' ').append(1 + f % 5).append(' ').append(f / 5).append(" 1;");
        }
        Edge.on(ten.toString()).due("wouldBe 1", 1023).due("wouldBe 0", 0).due("side 1 1", 1023);
    }

    private static void temptedByStones() {
        Edge.by("==== 3.", "TEMPTED: the fewest works of a SIDE on cells where it may (each of one cell at most once; all ditches, or all stones; coin left out), 3 at most,");
        Edge e = Edge.on(columns("444", "444"));
        tempted(e, "0 1 0");
        tempted(e, "0 1 1");
        tempted(e, "0 0 1", 6);
        tempted(Edge.on(columns("444", "544")), "0 0 1", 6, 12);
        tempted(Edge.on(columns("444", "554")), "0 0 1", 6, 12, 18);
        Edge.on(columns("444", "555")).due("tempted 0 0 1", NONE);
        // four cells, so that four stones would do
        tempted(Edge.on(columns("4444", "5544")), "0 0 1", 6, 12, 18);
        Edge.on(columns("4444", "5554")).due("tempted 0 0 1", NONE);
        // one cell, so that two stones there would do
        tempted(Edge.on(columns("4", "4")), "0 0 1", 6);
        Edge.on(columns("4", "5")).due("tempted 0 0 1", NONE);
        // right's stones, where the BED is at X 2, lead it to X 0 as soon as the sums are alike
        tempted(Edge.on(columns("544", "444")), "0 1 1", 8);
        tempted(Edge.on(columns("554", "444")), "0 1 1", 8, 14);
        tempted(Edge.on(columns("555", "444")), "0 1 1", 8, 14, 20);
        Edge.on(columns("655", "444")).due("tempted 0 1 1", NONE);
        Edge.on(columns("5555", "4444")).due("tempted 0 1 1", NONE);
        tempted(Edge.on(columns("444", "554") + "purse left 0;"), "0 0 1", 6, 12, 18);
        tempted(Edge.on(columns("555", "444") + "purse right 0;purse left 0;"), "0 1 1", 8, 14, 20);
    }

    private static void temptedByDitches() {
        Edge.by("==== 3.", "so that a FIELD would be that SIDE's behind a SPRING without ice; of like ones the first: cell by cell (6 by Y and X) the least, in rising order.");
        // ditches of right in 2 1 have led the river there; more of them in X 0, where the BED still is, lead it back
        int[] cells = {6, 12, 18};
        int[] stones = {8, 14, 20};
        Edge e = Edge.on(columns("4444", "4444"));
        for (int n = 0; n <= 3; n++) {
            tempted(e, "0 1 0", java.util.Arrays.copyOf(cells, n));
            tempted(e, "0 1 1", java.util.Arrays.copyOf(stones, n));
            e.due("dig 1 2 1", 0);
        }
        e.due("tempted 0 1 0", NONE).due("tempted 0 1 1", NONE).due("tempted 0 0 0", 0).due("temptedAt 0", NONE);
        e.due("tempted 0 0 1", 0).due("side 1 0", 5);
    }

    private static void temptedWhereItMay() {
        Edge.by("==== 3.", "on cells where it may");
        // HEIGHT 9: no stone; 8: one
        tempted(Edge.on(columns("911", "911")), "0 0 1", 12);
        tempted(Edge.on(columns("811", "811")), "0 0 1", 6);
        Edge.on(columns("999", "999")).due("tempted 0 0 1", NONE);
        // HEIGHT 0: no ditch; 1: one
        tempted(Edge.on(columns("044", "440")).due("dig 1 2 1", 0), "0 1 0", 12);
        tempted(Edge.on(columns("144", "441")).due("dig 1 2 1", 0), "0 1 0", 6);
        tempted(Edge.on(columns("000", "000")).due("lay 0 0 1", 0), "0 1 0", 6);
        Edge.on(columns("0", "1")).due("dig 1 2 1", 0).due("tempted 0 1 0", 0);
        // ditches in X 2 would do, but it is the other one's bank; so would stones in X 0 be
        Edge.on(columns("444", "444")).due("tempted 0 0 0", NONE);
        Edge.on(columns("544", "444")).due("tempted 0 1 0", NONE);
        // the BED is on no bank: both may there
        tempted(Edge.on(columns("4", "4")), "0 0 1", 6);
        tempted(Edge.on(columns("5", "4")), "0 1 1", 8);
        Edge.on(columns("444", "444") + "field b 0 3 1;").due("tempted 1 1 1", NONE).due("tempted 1 0 1", 1).due("temptedAt 0", 6);
    }

    private static void temptedRefused() {
        Edge.by("Promise 22", "how many works; NONE: not by 3, no such ones");
        String text = columns("444", "554") + "field b 0 0 1;field c 2 0 1;";
        Edge e = Edge.on(text).due("tempted 0 0 1", 3).outside("tempted 1 0 0", NONE, 0, 2, 0, 1, 0, 1);
        e.outside("tempted 2 1 1", NONE, 0, 2, 0, 1, 0, 1).refused("tempted 0 0 0", NONE).due("temptedAt 2", 18);
        e.due("tempted 1 0 0", 0).due("tempted 2 1 1", 0).refused("tempted 1 1 1", NONE);
        new Edge().refused("tempted 0 0 0", NONE).refused("tempted 0 1 1", NONE);
        Edge.on(text).changing("tempted 0 0 1", 3, "temptedAt").changing("tempted 0 1 1", 0, "temptedAt");
        Edge.by("Promise 23", "by the latest tempted() that was not NONE; NONE: none such, or ahead of any");
        Edge f = Edge.on(text);
        for (String k : new String[] {"-1", "0", "1", "3", "MIN", "MAX"}) {
            f.due("temptedAt " + k, NONE);
        }
        f.due("tempted 0 0 0", NONE).due("temptedAt 0", NONE).due("tempted 0 0 1", 3).outside("temptedAt 0", NONE, 0, 2);
        f.due("tempted 0 0 0", NONE).due("temptedAt 0", 6).due("temptedAt 1", 12).due("temptedAt 2", 18);
        f.text("plain", "", 0).due("temptedAt 2", 18).text("plain", columns("4", "4"), 7).due("tempted 0 0 1", 1);
        f.outside("temptedAt 0", NONE, 0, 0).due("tempted 0 1 1", 0).due("temptedAt 0", NONE);
    }

    private static void duel() {
        Edge.by("==== 3.", "the WORTH that the first one would have less that of the other one, both doing what is best for them;");
        // left's stone is answered by a ditch; right's ditch ahead of it can't be answered
        duel(Edge.on(columns("444", "444")), 0, -7, NO_WORK, NO_WORK);
        duel(Edge.on(columns("444", "444")), 1, 7, 6, NO_WORK);
        // right has it, and left can't lead it away by one
        duel(Edge.on(columns("444", "544")), 1, 7, NO_WORK, NO_WORK);
        duel(Edge.on(columns("444", "544")), 0, -7, NO_WORK, NO_WORK);
        duel(Edge.on(""), 0, 0, NO_WORK, NO_WORK);
        duel(Edge.on(""), 1, 0, NO_WORK, NO_WORK);
        StringBuilder ten = new StringBuilder("plain 6 2;purse left 0;purse right 0;");
        for (int f = 0; f < 10; f++) {
            ten.append("field ").append((char) ('a' + f)).append(' ').append(1 + f % 5).append(' ').append(f / 5).append(" 20;");
        }
        duel(Edge.on(ten.toString()), 0, -200, NO_WORK, NO_WORK);
        duel(Edge.on(ten.toString()), 1, 200, NO_WORK, NO_WORK);
        duel(Edge.on(STILL), 0, 7 - 20, NO_WORK, NO_WORK);
        duel(Edge.on(STILL), 1, 20 - 7, NO_WORK, NO_WORK);
    }

    private static void duelByCoin() {
        Edge.by("==== 3.", "the one SIDE does a work (a ditch, a stone, or none, where and as it may by coin, too), then the other one likewise,");
        String like = columns("444", "444");
        for (String coin : new String[] {"1", "99"}) {
            String left = "purse left " + coin + ";";
            String right = "purse right " + coin + ";";
            duel(Edge.on(like + left + right), 0, -7, NO_WORK, NO_WORK);
            duel(Edge.on(like + left + right), 1, 7, 6, NO_WORK);
            duel(Edge.on(like + left + "purse right 0;"), 0, 7, STONE + 6, NO_WORK);
            duel(Edge.on(like + left + "purse right 0;"), 1, -7, NO_WORK, STONE + 6);
            duel(Edge.on(like + right + "purse left 0;"), 0, -7, NO_WORK, NO_WORK);
            duel(Edge.on(like + right + "purse left 0;"), 1, 7, NO_WORK, NO_WORK);
        }
        // the coin that is left counts, not the purse
        Edge e = Edge.on(like + "purse left 1;purse right 0;").due("lay 0 0 0", 0);
        duel(e, 0, -7, NO_WORK, NO_WORK);
        e.due("undo", 0);
        duel(e, 0, 7, STONE + 6, NO_WORK);
        // a ditch of right in 2 1 has led it there: one more in 0 1, where the BED still is, leads it back
        for (int purse = 1; purse <= 2; purse++) {
            Edge f = Edge.on(like + "purse left 0;purse right " + purse + ";").due("dig 1 2 1", 0);
            duel(f, 0, purse == 1 ? 7 : -7, NO_WORK, purse == 1 ? NO_WORK : 6);
            duel(f, 1, purse == 1 ? -7 : 7, purse == 1 ? NO_WORK : 6, NO_WORK);
        }
    }

    private static void duelByHeights() {
        Edge.by("==== 3.", "where and as it may by coin, too");
        // HEIGHT 9 bears no stone, HEIGHT 8 one
        String none = "purse right 0;";
        duel(Edge.on(columns("911", "911") + none), 0, 7, STONE + 12, NO_WORK);
        duel(Edge.on(columns("811", "811") + none), 0, 7, STONE + 6, NO_WORK);
        duel(Edge.on(columns("9", "9") + none), 0, -7, NO_WORK, NO_WORK);
        // HEIGHT 0 bears no ditch, HEIGHT 1 one: the other way is a stone in X 2
        duel(Edge.on(columns("000", "000")), 1, 7, STONE + 8, NO_WORK);
        duel(Edge.on(columns("100", "001")), 1, 7, 6, NO_WORK);
        duel(Edge.on(columns("010", "100")), 1, 7, 12, NO_WORK);
        // what the first one did counts for the other one: its stone on 8 can't be laid upon, its ditch not dug again
        duel(Edge.on(columns("8", "9")), 1, 7, NO_WORK, NO_WORK);
        duel(Edge.on(columns("1", "1")), 1, 7, 6, NO_WORK);
        // on the other one's bank neither may: left can't dig in X 2, where a ditch would do
        duel(Edge.on(columns("4", "4") + "purse right 0;purse left 1;"), 0, 7, STONE + 6, NO_WORK);
        duel(Edge.on(columns("5", "4") + "purse left 0;"), 1, 7, STONE + 8, NO_WORK);
    }

    private static void duelOrder() {
        Edge.by("==== 3.", "of like ones: none ahead of ditches, those ahead of stones, then the least cell.");
        // none: all works are alike, as is none
        duel(Edge.on(columns("444", "666")), 0, -7, NO_WORK, NO_WORK);
        duel(Edge.on(columns("444", "666")), 1, 7, NO_WORK, NO_WORK);
        // ditches in 6, 12, 18 and stones on 8, 14, 20 are alike, for the first and for the other one
        String like = columns("444", "444");
        duel(Edge.on(like), 1, 7, 6, NO_WORK);
        duel(Edge.on(like + "purse left 0;").due("dig 1 2 1", 0), 0, -7, NO_WORK, 6);
        duel(Edge.on(columns("044", "440") + "purse left 0;").due("dig 1 2 1", 0), 0, -7, NO_WORK, 12);
        // stones alone are alike, for the first and for the other one
        duel(Edge.on(columns("444", "444") + "purse right 0;"), 0, 7, STONE + 6, NO_WORK);
        duel(Edge.on(columns("444", "444") + "purse right 0;"), 1, -7, NO_WORK, STONE + 6);
        duel(Edge.on(columns("911", "911") + "purse right 0;"), 1, -7, NO_WORK, STONE + 12);
        duel(Edge.on(columns("000", "000")), 1, 7, STONE + 8, NO_WORK);
    }

    private static void duelRefused() {
        Edge.by("Promise 24", "DUEL, a SIDE beginning: WORTH. NoSuchElementException: no such one");
        Edge e = Edge.on(columns("444", "444")).outside("duel 0", Edge.THROWS, 0, 1).due("duelAt 0", NONE);
        e.changing("duel 1", 7, "duelAt").outside("duel 1", Edge.THROWS, 0, 1);
        at(e, "duelAt", 6, NO_WORK);
        e.changing("duel 0", -7, "duelAt");
        new Edge().refused("duel 2", Edge.THROWS).refused("duel -1", Edge.THROWS).due("duel 0", 0).due("duel 1", 0);
        Edge.by("Promise 25", "-2 none; a cell: 6 by Y and X; 36 more: a stone. NONE for another k, or ahead of any");
        Edge f = Edge.on(columns("444", "444"));
        for (String k : new String[] {"-1", "0", "1", "2", "MIN", "MAX"}) {
            f.due("duelAt " + k, NONE);
        }
        f.due("duel 1", 7).outside("duelAt 0", NONE, 0, 1).due("duelAt 0", 6).due("duelAt 1", NO_WORK);
        f.text("plain", "", 0).due("duelAt 0", 6).due("duelAt 1", NO_WORK).due("duel 0", 0).due("duelAt 0", NO_WORK);
        // the last cell of a PLAIN that a work may move: 35, with a stone 71
        Edge last = Edge.on("plain 6 6;source 5;purse right 0;" + wall() + "field a 4 5 7;").bed(555554).due("duel 0", 7);
        at(last, "duelAt", STONE + 34, NO_WORK);
        Edge corner = Edge.on("plain 6 6;source 5;purse left 0;" + wall() + "land 5 5 4;field a 4 5 7;").bed(555555);
        corner.due("duel 1", 0);
        at(corner, "duelAt", STONE + 35, NO_WORK);
    }

    /** HEIGHTS 0 in X 5 but for the last row, so that the BED stays there up to it. */
    private static String wall() {
        StringBuilder text = new StringBuilder();
        for (int y = 0; y < 5; y++) {
            text.append("land 5 ").append(y).append(" 0;");
        }
        return text.toString();
    }

    private static void pushed() {
        Edge.by("==== 3.", "PUSHED by a SIDE with n works: up to n works (ditches and stones, each of one cell at most once, where it may, coin left out), so that the WORTH that it would have behind a SPRING without ice is the most;");
        Edge e = Edge.on(columns("444", "444"));
        pushed(e, "0 0", 0);
        pushed(e, "0 1", 7, STONE + 6);
        pushed(e, "1 0", 7);
        pushed(e, "1 1", 7);
        pushed(e, "1 2", 7);
        Edge f = Edge.on(columns("444", "544") + "purse left 0;");
        pushed(f, "0 1", 0);
        pushed(f, "0 2", 7, STONE + 6, STONE + 12);
        pushed(Edge.on(columns("444", "554")), "0 2", 0);
        // two stones on one cell would do
        pushed(Edge.on(columns("4", "5")), "0 2", 0);
        pushed(Edge.on(columns("4", "4")), "0 2", 7, STONE + 6);
        // HEIGHT 9 bears no stone, HEIGHT 8 one; HEIGHT 0 no ditch, HEIGHT 1 one
        pushed(Edge.on(columns("911", "911")), "0 1", 7, STONE + 12);
        pushed(Edge.on(columns("811", "811")), "0 1", 7, STONE + 6);
        pushed(Edge.on(columns("9", "9")), "0 2", 0);
        pushed(Edge.on(columns("044", "440")).due("dig 1 2 1", 0), "1 1", 7, 12);
        pushed(Edge.on(columns("144", "441")).due("dig 1 2 1", 0), "1 1", 7, 6);
        // the other one's bank
        pushed(Edge.on(columns("5", "4")), "0 2", 7);
        pushed(Edge.on(columns("5", "4")), "1 1", 7, STONE + 8);
        // 7 and 20 can't be had both: 20 is more
        Edge g = Edge.on(columns("44", "44") + "field b 1 0 20;field c 2 0 1;field d 2 2 3;");
        pushed(g, "1 2", 7 + 1 + 3);
        pushed(g, "0 2", 7, STONE + 6);
    }

    private static void pushedOrder() {
        Edge.by("==== 3.", "of like ones the fewest works, then the first: work by work the least (ditches by cells ahead of stones by cells), in rising order.");
        pushed(Edge.on(columns("444", "444")), "0 2", 7, STONE + 6);
        // right needs two: ditches in X 0, stones on X 2, or both
        Edge e = Edge.on(columns("444", "444")).due("lay 0 0 1", 0);
        pushed(e, "1 1", 7, 6);
        pushed(e, "1 2", 7, 6);
        e.due("lay 0 0 1", 0);
        pushed(e, "1 0", 0);
        pushed(e, "1 1", 0);
        pushed(e, "1 2", 7, 6, 12);
        e.due("lay 0 0 1", 0);
        pushed(e, "1 2", 0);
        // one ditch alone can be dug in X 0
        Edge f = Edge.on(columns("000", "000")).due("lay 0 0 2", 0).due("lay 0 0 2", 0);
        pushed(f, "1 2", 7, 12, STONE + 8);
        // the BED is at X 2: in X 0, on the other one's bank, no ditch may be dug
        Edge g = Edge.on(columns("666", "646"));
        pushed(g, "1 1", 0);
        pushed(g, "1 2", 7, STONE + 8, STONE + 14);
        // all HEIGHTS 5: a ditch in 4 4 leads it past X 0, a stone on 3 5, nearly the last work, from 3 5 to 4 5
        Edge far = Edge.on("plain 5 6;source 2;ice 5;field a 0 3 13;field b 3 5 9;").due("spring 40", 2).bed(223443);
        pushed(far, "0 1", 13, 14);
        pushed(far, "0 2", 22, 28, STONE + 33);
        // what could be done on another PLAIN can't be done here
        Edge other = Edge.on(columns("444", "444")).due("pushed 1 1", 7).due("tempted 0 1 0", 0);
        other.text("plain", columns("5", "4"), 7).due("tempted 0 1 0", NONE);
        pushed(other, "1 1", 7, STONE + 8);
        other.text("plain", columns("444", "444"), 13).due("pushed 0 1", 7).text("plain", columns("5", "4"), 7);
        pushed(other, "1 1", 7, STONE + 8);
        tempted(other, "0 1 1", 8);
    }

    private static void pushedRefused() {
        Edge.by("Promise 26", "PUSHED by a SIDE with n (0 to 2) works: WORTH; NONE: no such ones");
        Edge e = Edge.on(columns("444", "544")).due("pushed 0 2", 7).outside("pushed 0 0", NONE, 0, 1, 0, 2);
        e.outside("pushed 1 2", NONE, 0, 1, 0, 2).due("pushedAt 1", STONE + 12);
        e.changing("pushed 0 0", 0, "pushedAt").changing("pushed 0 2", 7, "pushedAt").changing("pushed 1 1", 7, "pushedAt");
        new Edge().due("pushed 0 0", 0).due("pushed 1 2", 0).refused("pushed 0 3", NONE).refused("pushed 2 0", NONE);
        Edge.by("Promise 27", "by the latest pushed() that was not NONE; NONE: none such, or ahead of any");
        Edge f = Edge.on(columns("444", "544"));
        for (String k : new String[] {"-1", "0", "1", "2", "MIN", "MAX"}) {
            f.due("pushedAt " + k, NONE);
        }
        f.due("pushed 0 3", NONE).due("pushedAt 0", NONE).due("pushed 0 2", 7).outside("pushedAt 0", NONE, 0, 1);
        f.due("pushed 2 2", NONE).due("pushedAt 0", STONE + 6).due("pushedAt 1", STONE + 12).text("plain", "", 0);
        f.due("pushedAt 0", STONE + 6).text("plain", columns("4", "4"), 7).due("pushed 0 2", 7);
        f.outside("pushedAt 0", NONE, 0, 0).due("pushed 0 0", 0).due("pushedAt 0", NONE);
    }

    private static void ran(String plain, int beds, int... pairs) {
        Edge.on(plain).tape(pairs).due("ran", beds);
    }

    private static void ran() {
        Edge.by("==== 3.", "RAN by the tape (pairs of bytes: a FIELD, whose it was: 0 left, 1 right, 2 wet; 1 to 10 of them)");
        // from 0 to 0 1, from 1 to 0 1 2, from 2 to 1 2
        ran(BEDS, 2, 0, 0);
        ran(BEDS, 2, 0, 1);
        ran(BEDS, 3, 0, 2);
        ran(BEDS, 5, 1, 0);
        ran(BEDS, 0, 1, 1);
        ran(BEDS, 2, 1, 2);
        ran(BEDS, 1, 1, 2, 0, 2);
        ran(BEDS, 0, 1, 2, 0, 0);
        ran(BEDS, 0, 0, 0, 0, 1);
        ran(BEDS, 3, 0, 2, 0, 2, 0, 2, 0, 2, 0, 2, 0, 2, 0, 2, 0, 2, 0, 2);
        ran(BEDS, 3, 0, 2, 0, 2, 0, 2, 0, 2, 0, 2, 0, 2, 0, 2, 0, 2, 0, 2, 0, 2);
        ran(BEDS, 1, 0, 2, 0, 2, 0, 2, 0, 2, 0, 2, 0, 2, 0, 2, 0, 2, 0, 2, 1, 2);
        ran(BEDS, NONE, 0, 2, 0, 2, 0, 2, 0, 2, 0, 2, 0, 2, 0, 2, 0, 2, 0, 2, 0, 2, 0, 2);
        Edge.by("==== 3.", "BEDS from any cell of the first row by which that was so;");
        String large = "plain 6 6;source 3;field a 0 0 1;field b 5 0 1;field c 5 5 1;field d 0 5 1;";
        ran(large, 96, 0, 2);
        ran(large, 96, 1, 2);
        ran(large, 950 - 96, 0, 0);
        ran(large, 950 - 96, 1, 1);
        ran(large, 0, 0, 1);
        ran(large, 1, 0, 2, 2, 2);
        ran(large, 1, 1, 2, 3, 2);
        ran(large, 950 - 192, 0, 0, 1, 1);
        ran("plain 6 2;field a 2 0 1;field b 3 0 1;field c 2 1 1;field d 3 1 1;", 3, 0, 2);
        ran("plain 6 2;field a 2 0 1;field b 3 0 1;field c 2 1 1;field d 3 1 1;", 8, 0, 0);
        ran("plain 6 2;field a 2 0 1;field b 3 0 1;field c 2 1 1;field d 3 1 1;", 5, 0, 1);
        ran("plain 6 2;field a 2 0 1;field b 3 0 1;field c 2 1 1;field d 3 1 1;", 2, 1, 2, 2, 0);
        ran("plain 6 2;field a 2 0 1;field b 3 0 1;field c 2 1 1;field d 3 1 1;", 1, 1, 2, 3, 0);
        ran("plain 6 2;field a 2 0 1;field b 3 0 1;field c 2 1 1;field d 3 1 1;", 0, 0, 1, 3, 0);
        Edge.on(BEDS).due("dig 1 2 0", 0).tape(1, 2, 0, 2).changing("ran", 1, "count 6", "the tape", "ranAt", "sure");
    }

    private static void first(String plain, int[] pairs, int[] first, int[] sure) {
        Edge e = Edge.on(plain).tape(pairs);
        Edge.that("BEDS above 0", e.ask("ran") > 0 ? 1 : 0, 1);
        for (int y = 0; y < first.length; y++) {
            e.due("ranAt " + y, first[y]).due("sure " + y, sure[y]);
        }
        e.due("ranAt " + first.length, NONE).due("sure " + first.length, NONE);
    }

    private static int[] of(int... all) {
        return all;
    }

    private static void ranFirst() {
        Edge.by("==== 3.", "the first: row by row the least X;");
        first(BEDS, of(0, 2), of(0, 1), of(NONE, 1));
        first(BEDS, of(0, 1), of(0, 0), of(NONE, 0));
        first(BEDS, of(0, 0), of(1, 2), of(NONE, 2));
        first(BEDS, of(1, 0), of(1, 0), of(NONE, NONE));
        first(BEDS, of(1, 2), of(0, 0), of(0, NONE));
        Edge.by("==== 3.", "SURE of a row: its X, if it is the same in all of them.");
        first(BEDS, of(1, 2, 0, 2), of(0, 1), of(0, 1));
        first(BEDS, of(1, 0, 0, 1), of(1, 0), of(1, 0));
        String large = "plain 6 6;field a 5 5 1;field b 0 0 1;field c 4 2 1;field d 2 5 1;";
        first(large, of(0, 2, 1, 2), of(0, 1, 2, 3, 4, 5), of(0, 1, 2, 3, 4, 5));
        first(large, of(0, 2), of(0, 1, 2, 3, 4, 5), of(NONE, NONE, NONE, NONE, NONE, 5));
        first(large, of(2, 0), of(3, 4, 5, 4, 3, 2), of(NONE, NONE, 5, NONE, NONE, NONE));
        first(large, of(2, 0, 3, 2), of(3, 4, 5, 4, 3, 2), of(NONE, NONE, 5, 4, 3, 2));
        first("plain 6 2;field a 0 0 1;field b 5 1 1;", of(1, 1), of(0, 0), of(NONE, NONE));
        first("plain 6 2;field a 0 0 1;field b 5 1 1;", of(0, 2, 1, 1), of(0, 0), of(0, NONE));
        first("plain 6 2;field a 0 0 1;field b 5 1 1;field c 2 0 1;field d 3 1 1;", of(2, 2, 3, 1), of(2, 1), of(2, NONE));
    }

    private static void ranRefused() {
        Edge.by("Promise 30", "how many BEDS; NONE: not as told");
        Edge e = Edge.on(BEDS).tape(0, 2).due("ran", 3);
        int[][] bad = {{}, {0}, {0, 2, 0}, {0, 3}, {2, 0}, {2, 2}, {255, 0}, {0, 255}, {128, 128}, {0, 2, 2, 2}, {0, 2, 0, 3},
            {0, 2, 1}, new int[19], new int[21], new int[22], new int[40], new int[940]};
        for (int[] bytes : bad) {
            e.tape(bytes).changing("ran", NONE, "count 6", "the tape").due("count 6", 0).due("ranAt 1", 1).due("sure 1", 1);
            if (bytes.length > 400) {
                e = Edge.on(BEDS).tape(0, 2).due("ran", 3);
            }
        }
        Edge.on("").tape(0, 0).due("ran", NONE);
        StringBuilder ten = new StringBuilder("plain 6 2;");
        for (int f = 0; f < 10; f++) {
            ten.append("field ").append((char) ('a' + f)).append(' ').append(f % 5).append(' ').append(f / 5).append(" 1;");
        }
        ran(ten.toString(), 3, 9, 2);
        ran(ten.toString(), NONE, 10, 2);
        Edge.by("Promise 31", "by the latest ran() above 0; NONE: no such row, or ahead of any");
        Edge f = Edge.on(BEDS).tape(0, 2, 1, 1).due("ran", 0).due("ranAt 0", NONE).tape(5, 5).due("ran", NONE);
        f.due("ranAt 0", NONE).tape(1, 0, 0, 1).due("ran", 1).outside("ranAt 0", NONE, 0, 1).due("ranAt 0", 1);
        f.tape(1, 1).due("ran", 0).due("ranAt 0", 1).due("ranAt 1", 0).tape(0, 3).due("ran", NONE).due("ranAt 0", 1);
        f.text("plain", "plain 6 6;", 1).due("ranAt 0", 1).due("ranAt 1", 0);
        Edge.by("Promise 32", "SURE of a row by that; NONE: it is not, likewise");
        Edge g = Edge.on(BEDS);
        for (String y : new String[] {"-1", "0", "1", "2", "MIN", "MAX"}) {
            g.due("sure " + y, NONE).due("ranAt " + y, NONE);
        }
        g.tape(0, 1).due("ran", 2).outside("sure 0", NONE, 0, 1).due("sure 0", NONE).due("sure 1", 0).tape(1, 1).due("ran", 0);
        g.due("sure 1", 0).tape(0).due("ran", NONE).due("sure 1", 0).tape(1, 2).due("ran", 2).due("sure 0", 0).due("sure 1", -1);
    }

    private static void shares() {
        Edge.by("Promise 29", "WORTH that is a SIDE's behind each of m (1 to 10) YEARS, of n (1 to 30) seeds x, x and 1, .., in all;");
        for (int m : new int[] {1, 2, 9, 10}) {
            for (int n : new int[] {1, 2, 29, 30}) {
                Edge e = Edge.on(STILL).due("shares 0 " + m + " " + n + " MIN", 7 * m * n);
                e.due("shares 1 " + m + " " + n + " MAX", 20 * m * n);
            }
        }
        Edge e = Edge.on(ICY);
        e.due("shares 0 1 1 MAX", 3).due("shares 0 2 1 MAX", 6).due("shares 0 3 1 MAX", 6).due("shares 1 2 1 MAX", 0);
        e.due("shares 1 3 1 MAX", 20).due("shares 0 2 1 MIN", 0).due("shares 1 1 1 MIN", 0).due("shares 1 2 1 MIN", 20);
        // the seed behind the most int is the least one
        e.due("shares 0 1 2 MAX", 3).due("shares 0 2 2 MAX", 6).due("shares 1 2 2 MAX", 20).due("shares 0 1 3 MAX", 3);
        e.refused("shares 0 10 30 MAX", e.ask("shares 0 10 30 MAX")).due("now 0", 0).due("undo", NONE);
        Edge.by("Promise 29", "NONE: no such ones");
        int[] bounds = {0, 1, 1, 10, 1, 30, Integer.MIN_VALUE, Integer.MAX_VALUE};
        Edge.on(STILL).outside("shares 0 1 1 0", NONE, bounds).outside("shares 1 10 30 5", NONE, bounds);
        new Edge().outside("shares 0 1 1 0", NONE, bounds).due("shares 0 10 30 1", 0).due("shares 1 1 1 1", 0);
    }

    /** An object behind so many SPRINGS. */
    private static Edge behind(String plain, int springs) {
        Edge e = Edge.on(plain);
        for (int n = springs; n > 0; n -= 30) {
            e.due("years " + Math.min(30, n) + " 1", Math.min(30, n));
        }
        return e;
    }

    private static void sharesAtTheEnd() {
        Edge.by("Promise 29", "behind each of m (1 to 10) YEARS");
        behind(STILL, 389).due("shares 0 10 3 1", 7 * 30);
        behind(STILL, 390).due("shares 0 10 3 1", 7 * 30).due("shares 1 10 3 1", 20 * 30);
        behind(STILL, 391).due("shares 0 9 3 1", 7 * 27).due("shares 0 10 3 1", 7 * 27);
        Edge e = behind(STILL, 399).due("shares 0 1 30 1", 7 * 30).due("shares 0 2 30 1", 7 * 30).due("shares 0 10 30 1", 7 * 30);
        e.due("spring 1", 0).due("shares 0 1 1 1", 0).due("shares 0 10 30 1", 0).due("shares 1 1 30 1", 0);
        e.due("shares 0 11 1 1", NONE).due("shares 0 0 1 1", NONE).due("undo", 7).due("shares 0 10 1 1", 7);
    }

    private static void odds() {
        Edge.by("Promise 33", "Of n (1 to 30) seeds x, x and 1, .. by how many a FIELD would be s's (0, 1; 2 wet) behind m (1 to 10) YEARS with it;");
        for (int m : new int[] {1, 10}) {
            for (int n : new int[] {1, 2, 29, 30}) {
                for (int s = 0; s < 3; s++) {
                    String rest = " " + s + " " + m + " " + n + " MAX";
                    Edge.on(STILL).due("odds 0" + rest, s == 0 ? n : 0).due("odds 1" + rest, s == 1 ? n : 0).due("odds 2" + rest,
                        s == 2 ? n : 0);
                }
            }
        }
        Edge e = Edge.on(ICY);
        e.due("odds 0 0 1 1 MAX", 1).due("odds 0 2 3 1 MAX", 1).due("odds 1 1 2 1 MAX", 0).due("odds 1 1 3 1 MAX", 1);
        e.due("odds 1 2 2 1 MAX", 1).due("odds 1 1 2 1 MIN", 1).due("odds 1 2 1 1 MIN", 1);
        // the seed behind the most int is the least one
        e.due("odds 0 0 1 2 MAX", 1).due("odds 0 2 1 2 MAX", 1).due("odds 0 1 1 2 MAX", 0).due("odds 0 2 1 3 MAX", 2);
        e.due("odds 1 2 1 3 MAX", 3).due("odds 1 1 2 2 MAX", 1);
        e.refused("odds 0 0 10 30 MAX", e.ask("odds 0 0 10 30 MAX")).due("now 0", 0).due("undo", NONE);
        Edge.by("Promise 33", "NONE: no such ones");
        int[] bounds = {0, 2, 0, 2, 1, 10, 1, 30, Integer.MIN_VALUE, Integer.MAX_VALUE};
        Edge.on(STILL).outside("odds 0 0 1 1 0", NONE, bounds).outside("odds 2 2 10 30 5", NONE, bounds);
        new Edge().refused("odds 0 0 1 1 1", NONE).refused("odds 0 2 1 1 1", NONE);
    }

    private static void oddsAtTheEnd() {
        Edge.by("Promise 33", "behind m (1 to 10) YEARS with it");
        Edge e = behind(STILL, 399).due("odds 0 0 1 30 1", 30).due("odds 0 0 10 30 1", 30).due("odds 2 2 10 1 1", 1);
        e.due("spring 1", 0).due("odds 0 0 1 30 1", 30).due("odds 0 1 10 30 1", 0).due("odds 2 2 10 1 1", 1);
        e.due("odds 3 0 1 1 1", NONE).due("odds 0 0 0 1 1", NONE);
    }
}
