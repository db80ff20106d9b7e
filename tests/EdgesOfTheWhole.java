/** What the other Edges leave of the document's words: what a BED, a SPRING, a plan are, by what then comes of them. */
final class EdgesOfTheWhole {
    private static final int NONE = -1;
    private static final int NO_WORK = -2;
    private static final int STONE = 36;
    private static final int[][] SIZES = {{3, 2}, {6, 2}, {3, 6}, {5, 5}, {6, 6}, {4, 3}};
    /** Two ways down from 1 0, X 0 and X 2, and a at the foot of the middle one: the right one's, then the left one's. */
    private static final String WAYS = "plain 3 4;source 1;ice 0;land 0 1 4;land 1 1 9;land 2 1 4;land 0 2 4;land 1 2 9;"
        + "land 2 2 5;land 0 3 4;land 1 3 9;land 2 3 4;field a 1 3 7;field b 0 0 3;mill m 1 2;";
    private static final String[] TEMPTING = {WAYS, WAYS.replace("2 2 5", "2 2 4"), WAYS.replace("0 1 4", "0 1 7"),
        WAYS.replace("2 1 4", "2 1 5"), "plain 6 6;source 3;ice 0;field a 1 4 2;field b 4 3 5;land 2 2 4;"};

    private EdgesOfTheWhole() {
    }

    static void all() {
        blanks();
        order();
        oneOfEachRow();
        riverRuns();
        rolling();
        seeds();
        draws();
        duel();
        duelAt();
        tempted();
        temptedAt();
        pushedAt();
        ago();
        ran();
        book();
        said();
        restored();
    }

    private static void blanks() {
        Edge.by("Terms", "TOKENS of all texts, with blanks (32, 10) between them or not");
        for (String blank : new String[] {" ", "\n", "  ", "\n \n"}) {
            String plain = "field a 1 1 3;ice 0;".replace(" ", blank);
            Edge e = Edge.on(plain).due("count 0", 1).due("count 4", 0).text("plain", blank + plain + blank, 2);
            e.text("book 0", "right digs 3 3;spring 5;".replace(" ", blank), -1).due("told 1", 2);
            e.text("sentence", "worth<5and(right)".replace("a", blank + "a").replace("(", blank + "(" + blank), 3);
            e.due("said 0", 0);
        }
        Edge.on("field a 1 1 3;").text("sentence", "worth<5", 1).text("sentence", "not(left)", 3).text("sentence", "notleft", -1);
    }

    private static void order() {
        Edge.by("Terms", "LINE: 'plain' WIDE HIGH (3 to 6, 2 to 6; once, ahead of all cells; 5 by 5 without)");
        Edge.on("ice 1;purse left 3;plain 3 2;mill m 2 1;source 2;field a 2 1 1;land 2 1 3;").due("count 1", 3).due("count 2", 2);
        Edge.on("land 4 4 3;ice 1;").due("count 1", 5).due("count 2", 5).due("height 4 4", 3);
    }

    private static void oneOfEachRow() {
        Edge.by("==== 2.", "A BED is one cell of each row:");
        for (int[] size : SIZES) {
            Edge e = Edge.on("plain " + size[0] + " " + size[1] + ";source 2;ice 5;");
            for (int springs = 0; springs < 3; springs++) {
                for (int y = 0; y < size[1]; y++) {
                    long often = 0;
                    for (int x = 0; x < size[0]; x++) {
                        long wet = e.ask("bank " + x + " " + y) == 2 ? 1 : 0;
                        often += wet;
                        Edge.that("the BED is at " + x + " " + y, wet, e.ask("bed " + y) == x ? 1 : 0);
                    }
                    Edge.that("cells of the BED in row " + y, often, 1);
                }
                e.due("bed " + size[1], NONE).led("spring " + springs);
            }
        }
    }

    private static void riverRuns() {
        Edge.by("==== 2.", "The river runs in one; at first in that of the least HEIGHTS");
        for (int[] size : SIZES) {
            Edge e = Edge.on("plain " + size[0] + " " + size[1] + ";source 2;ice 5;land 0 1 4;land 2 1 3;");
            e.due("now 2", e.ask("would"));
            for (int springs = 0; springs < 20; springs++) {
                e.due("bed 0", 2);
                for (int y = 1; y < size[1]; y++) {
                    Edge.that("X of row " + y + " is next to that ahead", Math.abs(e.ask("bed " + y) - e.ask("bed " + (y - 1))) < 2
                        ? 1 : 0, 1);
                }
                e.led("spring " + springs);
            }
        }
    }

    private static void rolling() {
        Edge.by("==== 2.", "To ROLL a MILL (it is on wheels): 1 the cell is not next to its own");
        Edge e = Edge.on(WAYS).due("roll 0 2 2", 0).due("roll 0 2 1", 0).due("roll 0 1 2", 1).due("roll 0 2 1", 1);
        e.due("mill 0 0", 2).due("mill 0 1", 1).due("mill 0 3", 2).due("height 2 1", 4).due("spring 1", 0).due("side 1 0", 12);
    }

    private static void seeds() {
        Edge.by("==== 2.", "A SPRING (0 to 399 have been; 400: all are over) with a seed x (for each draw");
        // the same seed on the same PLAIN, the same BED; not all seeds the same
        String icy = "plain 6 6;source 3;ice 5;field a 3 5 1;";
        long all = 0;
        for (String seed : new String[] {"0", "1", "2", "3", "1000", "MAX", "MIN", "-1"}) {
            Edge e = Edge.on(icy).led("spring " + seed);
            e.same(Edge.on(icy).led("spring " + seed)).due("now 0", 1);
            all |= 1L << e.ask("bed 5");
        }
        Edge.that("the last X of eight seeds, at least two", Long.bitCount(all) > 1 ? 1 : 0, 1);
    }

    /** The draws as told, one for each cell, and of all BEDS the first of the least: what the BED is due to be. */
    private static long bedBy(Edge e, int wide, int high, int ice, int[] x) {
        long[][] ground = new long[high][wide];
        for (int y = 0; y < high; y++) {
            for (int c = 0; c < wide; c++) {
                x[0] = x[0] * 1103515245 + 12345;
                ground[y][c] = e.ask("height " + c + " " + y) + (x[0] >>> 8) % (ice + 1);
            }
        }
        long least = Long.MAX_VALUE;
        long best = 0;
        int ways = 1;
        for (int y = 1; y < high; y++) {
            ways *= 3;
        }
        for (int way = 0; way < ways; way++) {
            int at = (int) e.ask("count 3");
            long sum = ground[0][at];
            long bed = at;
            boolean whole = true;
            for (int y = 1, turns = ways / 3; y < high; y++, turns /= 3) {
                at += way / turns % 3 - 1;
                whole &= at >= 0 && at < wide;
                sum += whole ? ground[y][at] : 0;
                bed = 10 * bed + at;
            }
            if (whole && sum < least) {
                least = sum;
                best = bed;
            }
        }
        return best;
    }

    private static void draws() {
        Edge.by("==== 2.", "row by row, cell by cell: a draw of 'ice' and 1: so much ice;");
        for (int ice = 0; ice <= 5; ice++) {
            for (int[] size : SIZES) {
                for (int source = 0; source < size[0]; source += 2) {
                    String plain = "plain " + size[0] + " " + size[1] + ";source " + source + ";ice " + ice + ";land 1 1 4;";
                    int[] x = {ice * 1000 + source};
                    Edge e = Edge.on(plain).led("years 2 " + x[0]);
                    Edge first = Edge.on(plain).led("years 1 " + x[0]);
                    first.bed(bedBy(first, size[0], size[1], ice, x));
                    // the draws of the second YEAR go on where those of the first one ended
                    e.bed(bedBy(e, size[0], size[1], ice, x));
                }
            }
        }
    }

    /** The work as told by duelAt() and pushedAt(), done. */
    private static Edge done(Edge e, int side, long work) {
        if (work != NO_WORK) {
            long cell = work % STONE;
            e.due((work < STONE ? "dig " : "lay ") + side + " " + cell % 6 + " " + cell / 6, 0);
        }
        return e;
    }

    private static void duel() {
        Edge.by("==== 3.", "DUEL: the one SIDE does a work");
        String[] plains = {WAYS, WAYS + "purse left 0;", WAYS + "purse right 0;", WAYS.replace("2 2 5", "2 2 4"),
            WAYS.replace("2 2 5", "2 2 4") + "purse right 0;", WAYS.replace("0 1 4", "0 1 6"), ""};
        for (String plain : plains) {
            for (int side = 0; side < 2; side++) {
                Edge e = Edge.on(plain + (plain.isEmpty() ? "ice 0;" : ""));
                long lead = e.ask("duel " + side);
                long work = e.ask("duelAt 0");
                long reply = e.ask("duelAt 1");
                done(done(e, side, work), 1 - side, reply).led("spring 1");
                Edge.that("what is left behind the works of duel " + side + " on " + plain,
                    e.ask("side " + side + " 2") - e.ask("side " + (1 - side) + " 2"), lead);
            }
        }
        Edge.by("==== 3.", "then comes a SPRING without ice:");
        // 'ice' is of no account to it
        for (int side = 0; side < 2; side++) {
            Edge e = Edge.on(WAYS.replace("ice 0", "ice 5"));
            e.due("duel " + side, Edge.on(WAYS).ask("duel " + side)).due("now 0", 0);
        }
    }

    private static void duelAt() {
        Edge.by("Promise 25", "The work of the first (k 0), of the other one (1) by the latest duel(): -2 none;");
        String like = WAYS.replace("2 2 5", "2 2 4");
        Edge e = Edge.on(like).due("duel 1", 7 - 3).due("duelAt 0", 6).due("duelAt 1", NO_WORK);
        e.due("duel 0", 3 - 7).due("duelAt 0", NO_WORK).due("duelAt 1", NO_WORK);
        Edge f = Edge.on(like + "purse right 0;").due("duel 1", -7 - 3).due("duelAt 0", NO_WORK).due("duelAt 1", STONE + 6);
        f.due("duel 0", 7 + 3).due("duelAt 0", STONE + 6).due("duelAt 1", NO_WORK);
    }

    private static void tempted() {
        Edge.by("Promise 22", "TEMPTED of a FIELD by a SIDE with ditches (0) or stones (1): how many works;");
        for (String plain : TEMPTING) {
            for (String call : new String[] {"0 0 0", "0 0 1", "0 1 0", "0 1 1", "1 0 0", "1 0 1", "1 1 0", "1 1 1"}) {
                Edge e = Edge.on(plain + "purse left 9;purse right 9;");
                long works = e.ask("tempted " + call);
                for (int k = 0; k < works; k++) {
                    done(e, call.charAt(2) - '0', e.ask("temptedAt " + k) + (call.endsWith("1") ? STONE : 0));
                }
                if (works >= 0) {
                    e.led("spring 1").due("field " + call.charAt(0) + " 3", call.charAt(2) - '0');
                }
            }
        }
    }

    private static void temptedAt() {
        Edge.by("Promise 23", "The k-th cell (from 0): 6 by Y and X,");
        Edge.on(WAYS).due("tempted 0 0 1", 0 + 2).due("temptedAt 0", 6).due("temptedAt 1", 12).due("temptedAt 2", NONE);
        Edge.on(WAYS.replace("2 1 4", "2 1 5")).due("tempted 0 0 1", 3).due("temptedAt 2", 18).due("temptedAt 3", NONE);
        for (String plain : TEMPTING) {
            Edge e = Edge.on(plain);
            for (int call = 0; call < 8; call++) {
                long works = e.ask("tempted " + call / 4 + " " + call / 2 % 2 + " " + call % 2);
                for (int k = 1; k < works; k++) {
                    Edge.that("the cells are in rising order", e.ask("temptedAt " + k) > e.ask("temptedAt " + (k - 1)) ? 1 : 0, 1);
                }
            }
        }
    }

    private static void pushedAt() {
        Edge.by("Promise 27", "The k-th work (from 0), as told by duelAt(),");
        String[] plains = {WAYS, WAYS.replace("2 2 5", "2 2 4"), WAYS.replace("0 1 4", "0 1 7"),
            "plain 6 6;source 3;ice 0;field a 1 4 2;field b 4 3 5;land 2 2 4;"};
        for (String plain : plains) {
            for (int side = 0; side < 2; side++) {
                for (int n = 0; n < 3; n++) {
                    Edge e = Edge.on(plain);
                    long worth = e.ask("pushed " + side + " " + n);
                    int works = 0;
                    while (works < 2 && e.ask("pushedAt " + works) != NONE) {
                        works++;
                    }
                    Edge.that("works, at most " + n, works <= n ? 1 : 0, 1);
                    for (int k = 0; k < works; k++) {
                        done(e, side, e.ask("pushedAt " + k));
                    }
                    e.led("spring 1").due("side " + side + " 2", worth);
                }
            }
        }
    }

    private static void ago() {
        Edge.by("Promise 28", "X of the BED in a row k (1 to 8) SPRINGS ago (ahead of the latest one: 1);");
        Edge e = Edge.on("plain 6 3;source 3;ice 5;");
        long[] beds = new long[13];
        for (int n = 0; n <= 12; n++) {
            beds[n] = e.ask("bed 2");
            for (int k = 1; k <= 9; k++) {
                e.due("ago " + k + " 2", k <= 8 && k <= n ? beds[n - k] : NONE);
            }
            e.led("spring " + 5 * n);
        }
    }

    private static void ran() {
        Edge.by("Promise 30", "RAN: how many BEDS;");
        // wet at 1 1: from 0, 1 and 2, then to 0, 1 and 2
        Edge e = Edge.on("plain 3 3;field a 1 1 1;field b 0 2 1;").tape(0, 2).due("ran", 9).tape(0, 2, 1, 0).due("ran", 6);
        e.tape(1, 2, 0, 1).due("ran", 2).tape(0, 2, 1, 1).due("ran", 0);
        Edge.by("Promise 31", "X of the first of them in a row,");
        e.tape(0, 2).due("ran", 9).due("ranAt 0", 0).due("ranAt 1", 1).due("ranAt 2", 0);
        e.tape(0, 2, 1, 0).due("ran", 6).due("ranAt 0", 0).due("ranAt 1", 1).due("ranAt 2", 1);
        e.tape(1, 2, 0, 1).due("ran", 2).due("ranAt 0", 0).due("ranAt 1", 0).due("ranAt 2", 0);
    }

    private static void book() {
        Edge.by("Promise 37", "The tape is a BOOK: it is judged");
        for (String lives : new String[] {"0", "1"}) {
            Edge e = Edge.on(WAYS).text("book " + lives, "left digs 0 0;m rolls 2 2;years 2;", -1);
            e.text("book " + lives, "left digs 2 0;", 0).text("book " + lives, "spring 3;", -1);
        }
        Edge.by("Promise 38", "0 why it was WRONG (0: it was not; 1 to 3 as for digging");
        for (String lives : new String[] {"0", "1"}) {
            Edge e = Edge.on(WAYS).text("book " + lives, "left digs 0 0;m rolls 2 2;years 2;", -1).due("told 0", 0);
            e.text("book " + lives, "left digs 2 0;", 0).due("told 0", 2).text("book " + lives, "spring 3;", -1).due("told 0", 0);
        }
    }

    private static void said() {
        Edge.by("Promise 40", "FIELDS of which it may be said: how many (k NONE), or the k-th.");
        Edge.on(WAYS).says("right", 0).says("left", 1).says("left or right", 0, 1).says("wet").says("not wet", 0, 1);
    }

    private static void restored() {
        Edge.by("Promise 42", "They are as kept in place k");
        for (int k = 0; k < 2; k++) {
            Edge e = Edge.on(WAYS).due("dig 1 2 1", 0).text("sentence", "worth>5", 1).due("image " + k, 1);
            e.due("years 9 4", 9).text("plain", "plain 6 6;", 1).text("sentence", "wet", 1).due("restore " + k, 1);
            e.same(Edge.on(WAYS).due("dig 1 2 1", 0).text("sentence", "worth>5", 1), "behind");
        }
    }
}
