/** Edges of a BOOK's text, of its FAULTS, of how it is judged and lived. */
final class EdgesOfBooks {
    /** HEIGHTS 0 5 9 / 0 9 5; the BED is 1 0, so that quern sticks in it; the left one has a coin, the right one two. */
    private static final String LOW = "plain 3 2;source 1;ice 0;land 0 1 0;land 1 1 9;land 0 0 0;land 2 0 9;"
        + "mill wheel 2 1;mill quern 0 1;purse left 1;purse right 2;";

    private static final String FLAT = "plain 6 6;source 5;ice 5;";

    private EdgesOfBooks() {
    }

    static void all() {
        most();
        lines();
        numbers();
        faults();
        empty();
        judged();
        lived();
        another();
        digging();
        laying();
        rolling();
        springs();
        told();
    }

    private static void most() {
        Edge.by("Terms", "A BOOK is a text of at most 400 bytes");
        Edge e = Edge.on(Hill.TEXT);
        e.text("book 0", "years 1;" + " ".repeat(391), -1).due("told 1", 1);
        e.text("book 0", "years 1;" + " ".repeat(392), -1).due("told 1", 1);
        e.text("book 0", " ".repeat(392) + "years 1;", -1).due("told 1", 1);
        e.fault("book 1", "years 1;" + " ".repeat(393), 1, 400);
        e.fault("book 0", " ".repeat(401), 1, 400);
        e.fault("book 1", " ".repeat(940), 1, 400);
        // read whole: a NUMBER and a WORD over the 400th byte
        e.fault("book 1", " ".repeat(393) + "years 12;", 1, 400);
        e.fault("book 1", " ".repeat(393) + "years 31;", 2, 399);
        e.fault("book 1", " ".repeat(394) + "years 31;", 1, 400);
        e.fault("book 1", " ".repeat(399) + "years 1;", 1, 400);
        e.fault("book 1", " ".repeat(399) + "years1;", 1, 399);
        e.fault("book 1", "years" + " ".repeat(395), 1, 400);
        e.fault("book 1", "years 31;" + " ".repeat(900), 2, 6);
    }

    private static void lines() {
        Edge.by("Terms", "{ LINE ; }, 40 at most");
        Edge e = Edge.on(Hill.TEXT);
        e.text("book 0", "", -1).due("told 1", 0);
        e.text("book 0", "years 1;", -1).due("told 1", 1);
        e.text("book 0", "years 1;".repeat(39), -1).due("told 1", 39);
        e.text("book 0", "years 1;".repeat(40), -1).due("told 1", 40).due("told 2", 40);
        e.fault("book 1", "years 1", 1, 7).fault("book 1", ";", 1, 0).fault("book 1", "years 1;;", 1, 8);
        e.fault("book 1", "years 1 years 1;", 1, 8);
        Edge.by("Terms", "a 41st LINE of a BOOK (at the LINE's first WORD)");
        String forty = "years 1;".repeat(40);
        e.fault("book 1", forty + "years 1;", 4, 320).fault("book 0", forty + "  years 0;", 4, 322);
        e.fault("book 1", forty + "left", 4, 320).fault("book 1", forty + "right", 4, 320);
        e.fault("book 1", forty + "spring", 4, 320).fault("book 1", forty + "grind", 4, 320);
        e.text("book 0", forty + "  ", -1).due("told 1", 40);
        Edge.by("Terms", "of one TOKEN the least");
        e.fault("book 1", forty + "nobody rolls 0 0;", 3, 320).fault("book 1", forty + "bean rolls 0 0;", 3, 320);
        e.fault("book 1", forty + "digs 0 0;", 1, 320).fault("book 1", forty + "1", 1, 320);
        e.fault("book 1", forty + ";", 1, 320).fault("book 1", forty + "x1", 1, 320);
    }

    private static void numbers() {
        Edge.by("Terms", "(X, Y 0 to 5; SEED 0 to 999)");
        Edge e = Edge.on("plain 6 6;ice 0;mill wheel 5 4;mill quern 1 0;purse left 99;purse right 99;");
        for (String act : new String[] {"right digs", "right lays", "wheel rolls"}) {
            int x = act.length() + 1;
            e.fault("book 1", act + " 6 0;", 2, x).fault("book 1", act + " 0 6;", 2, x + 2);
            e.fault("book 1", act + " 6 6;", 2, x).fault("book 1", act + " 999 0;", 2, x);
            e.text("book 0", act + " 5 5;", -1);
        }
        e.text("book 0", "left digs 0 0;left lays 0 0;quern rolls 0 0;", -1);
        e.fault("book 1", "spring 1000;", 1, 7);
        int[] seeds = {0, 1, 998, 999};
        int[] beds = {554321, 544321, 543321, 543344};
        for (int i = 0; i < seeds.length; i++) {
            Edge.on(FLAT).text("book 1", "spring " + seeds[i] + ";", -1).due("now 0", 1).bed(beds[i]);
            Edge.on(FLAT).due("spring " + seeds[i], 0).bed(beds[i]);
        }
        Edge.by("Terms", "'years' N (1 to 30: its seed, too)");
        e.fault("book 1", "years 0;", 2, 6).fault("book 1", "years 31;", 2, 6).fault("book 1", "years 999;", 2, 6);
        int[] ns = {1, 2, 30};
        int[] behind = {544321, 545544, 545554};
        for (int i = 0; i < ns.length; i++) {
            Edge.on(FLAT).text("book 1", "years " + ns[i] + ";", -1).due("now 0", ns[i]).bed(behind[i]);
            Edge.on(FLAT).due("years " + ns[i] + " " + ns[i], ns[i]).bed(behind[i]);
        }
    }

    private static void faults() {
        Edge.by("Terms", "SIDE ( 'digs' | 'lays' ) X Y | MILL 'rolls' X Y | 'spring' SEED");
        Edge e = Edge.on(Hill.TEXT);
        for (String bad : new String[] {"", ";", "1", "left", "spring", "bean", "dig"}) {
            e.text("book 1", "left " + bad, -2 - 5).due("fault", 1);
            e.text("book 1", "right " + bad, -2 - 6).due("fault", 1);
            e.text("book 1", "grind " + bad, -2 - 6).due("fault", 1);
        }
        e.text("book 1", "left rolls 0 0;", -2 - 5).due("fault", 1).text("book 1", "grind digs 0 0;", -2 - 6);
        e.due("fault", 1).text("book 1", "grind lays 0 0;", -2 - 6).due("fault", 1);
        String[] ends = {"left digs", "left digs 0", "left digs 0 0", "right lays", "right lays 0", "right lays 0 0",
            "grind rolls", "grind rolls 0", "grind rolls 0 0", "spring", "spring 1", "years", "years 1", "left", "grind"};
        for (String end : ends) {
            e.text("book 1", end, -2 - end.length()).due("fault", 1);
            e.text("book 1", end + " \n", -2 - end.length() - 2).due("fault", 1);
            e.text("book 1", end + " left", -2 - end.length() - 1).due("fault", 1);
        }
        Edge.by("Promise 37", "-2 less the place of a FAULT;");
        Edge f = Edge.on(Hill.TEXT).text("book 0", "left digs 5 5;", 0).due("told 0", 9);
        f.fault("book 0", "digs", 1, 0).fault("book 1", "nobody", 3, 0).fault("book 1", "years 1;spring", 1, 14);
        f.fault("book 1", "right digs 3 0;spring 1;left digs 6 0;", 2, 34).due("told 0", 9);
    }

    private static void empty() {
        Edge.by("Promise 37", "NONE: none;");
        for (String lives : new String[] {"0", "1"}) {
            Edge e = Edge.on(Hill.TEXT).due("dig 1 3 0", 0);
            e.changing("book " + lives, -1, "told");
            e.due("told 0", 0).due("told 1", 0).due("told 2", 0).due("told 3", 1).due("undo", 0).due("undo", -1);
        }
        Edge.on(Hill.TEXT).text("book 1", "right digs 3 0;", -1).due("told 0", 0).due("told 1", 1).due("undo", 0);
    }

    private static void judged() {
        Edge.by("Promise 37", "it is judged, all staying as it is (lives 0)");
        String[] books = {"right digs 3 0;", "left lays 0 0;left lays 0 1;left digs 0 0;", "grind rolls 0 0;spring 2;",
            "years 30;years 30;spring 1;right digs 0 0;", "left digs 0 5;", "grind rolls 1 1;grind rolls 1 2;"};
        int[] wrong = {-1, 2, -1, 3, 0, 1};
        for (int i = 0; i < books.length; i++) {
            Edge e = Edge.on(Hill.TEXT).due("dig 1 3 0", 0).due("image 0", 1).tape(books[i]);
            e.changing("book 0", wrong[i], "told", "count 6", "the tape");
        }
    }

    private static void lived() {
        Edge.by("Promise 37", "or lived as far as it is not WRONG (1): the LINE that is WRONG (from 0)");
        Edge none = Edge.on(Hill.TEXT).tape("left digs 3 0;spring 1;");
        none.changing("book 1", 0, "told", "count 6", "the tape");
        Edge one = Edge.on(Hill.TEXT).text("book 1", "right digs 3 0;left digs 3 0;spring 1;", 1);
        one.same(Edge.on(Hill.TEXT).due("dig 1 3 0", 0), "told").due("undo", 0).due("undo", -1);
        Edge whole = Edge.on(Hill.TEXT).text("book 1", "left lays 0 0;right digs 3 0;grind rolls 0 0;spring 2;years 3;", -1);
        Edge acts = Edge.on(Hill.TEXT).due("lay 0 0 0", 0).due("dig 1 3 0", 0).due("roll 0 0 0", 0);
        acts.due("years 1 2", 1).due("years 3 3", 3);
        whole.same(acts, "told", "undone").due("undo", 0).due("undo", -1).same(Edge.on(Hill.TEXT), "told", "undone");
        String forty = "right digs 3 0;right lays 3 0;".repeat(13);
        Edge last = Edge.on(Hill.TEXT.replace("purse right 9", "purse right 26"));
        last.text("book 1", forty, -1).due("told 1", 26).due("side 1 0", 0).due("side 1 3", 26).due("height 3 0", 5);
        last.text("book 1", "right digs 3 0;", 0).due("told 0", 1).due("undo", 0).due("side 1 0", 26);
    }

    private static void another() {
        Edge.by("Promise 37", "-1000: another lives (the tape stays)");
        for (String lives : new String[] {"-1", "2", "3", "MIN", "MAX"}) {
            Edge e = Edge.on(Hill.TEXT).text("book 0", "left digs 5 5;", 0).text("plain", "ice", -4);
            e.tape("wet").refused("book " + lives, -1000).due("count 6", 3).due("told 0", 9).due("fault", 1);
            e.due("sentence", 1).due("said 0", 2);
            new Edge().tape(" ".repeat(940)).due("book " + lives, -1000).due("count 6", 940).due("told 0", -1);
        }
    }

    /** The BOOK is wrong for a reason in this LINE, judged and lived, and lives no LINE from there on. */
    private static void wrong(String book, int line, int why) {
        for (String lives : new String[] {"0", "1"}) {
            Edge e = Edge.on(LOW).text("book " + lives, book, line).due("fault", 0);
            e.due("told 0", why).due("told 1", line).due("told 2", 0).due("told 3", 0);
            e.due("undo", lives.equals("1") && line > 0 ? 0 : -1).same(Edge.on(LOW), "told");
        }
    }

    private static void digging() {
        Edge.by("Promise 38", "1 to 3 as for digging, 9 there is no such cell;");
        wrong("left digs 1 0;left digs 1 0;", 1, 1);
        wrong("left digs 1 0;left digs 1 1;", 1, 1);
        wrong("left digs 1 0;left digs 0 0;", 1, 1);
        wrong("left digs 1 1;", 0, 2);
        wrong("right digs 0 0;", 0, 2);
        wrong("left digs 0 0;", 0, 3);
        wrong("right digs 0 1;", 0, 3);
        wrong("left digs 3 0;", 0, 9);
        wrong("left digs 0 2;", 0, 9);
        wrong("left digs 5 5;", 0, 9);
        wrong("left digs 1 0;left digs 3 0;", 1, 9);
        wrong("right digs 2 1;right digs 1 1;right digs 2 0;", 2, 1);
    }

    private static void laying() {
        Edge.by("Promise 38", "11 to 13, 19 for laying;");
        wrong("left lays 1 0;left lays 1 0;", 1, 11);
        wrong("left lays 1 0;left lays 2 0;", 1, 11);
        wrong("left lays 1 1;", 0, 12);
        wrong("right lays 0 0;", 0, 12);
        wrong("right lays 1 1;", 0, 13);
        wrong("right lays 2 0;", 0, 13);
        wrong("right lays 3 1;", 0, 19);
        wrong("right lays 2 2;", 0, 19);
        wrong("left lays 0 1;left lays 3 1;", 1, 19);
    }

    private static void rolling() {
        Edge.by("Promise 38", "41, 42, 49 for rolling)");
        wrong("wheel rolls 2 1;", 0, 41);
        wrong("wheel rolls 1 0;", 0, 41);
        wrong("wheel rolls 0 1;", 0, 41);
        wrong("quern rolls 1 0;", 0, 41);
        wrong("quern rolls 0 0;", 0, 42);
        wrong("quern rolls 1 1;", 0, 42);
        wrong("wheel rolls 1 1;wheel rolls 0 1;wheel rolls 1 1;", 2, 42);
        wrong("wheel rolls 3 1;", 0, 49);
        wrong("wheel rolls 2 2;", 0, 49);
        wrong("quern rolls 0 2;", 0, 49);
    }

    private static void springs() {
        Edge.by("Promise 38", "31: fewer SPRINGS are left;");
        Edge e = Edge.on("ice 0;");
        for (int i = 0; i < 13; i++) {
            e.due("years 30 1", 30);
        }
        e.text("book 0", "years 10;", -1).due("told 2", 400).text("book 0", "years 11;", 0).due("told 0", 31);
        e.due("told 1", 0).due("told 2", 390).text("book 1", "years 9;", -1).due("now 0", 399);
        e.text("book 0", "spring 0;", -1).due("told 0", 0).text("book 0", "years 1;", -1).due("told 2", 400);
        e.text("book 0", "years 2;", 0).due("told 0", 31).due("told 2", 399);
        e.text("book 0", "spring 0;spring 0;", 1).due("told 0", 31).due("told 1", 1).due("told 2", 400);
        e.text("book 1", "years 2;spring 1;", 0).due("now 0", 399);
        e.text("book 1", "years 1;years 1;", 1).due("told 0", 31).due("now 0", 400);
        e.text("book 1", "spring 0;", 0).due("told 0", 31).text("book 1", "years 1;", 0).due("told 0", 31);
        e.due("told 2", 400).due("now 0", 400).text("book 1", "right digs 4 4;", -1).due("told 2", 400);
    }

    private static void told() {
        Edge.by("Promise 38", "Of the latest book() that had no FAULT (and was not -1000)");
        Edge e = Edge.on(Hill.TEXT).text("book 0", "spring 2;right digs 0 0;", 1);
        int[] due = {2, 1, 1, 1};
        for (int i = 0; i < 2; i++) {
            for (int what = 0; what < 4; what++) {
                e.due("told " + what, due[what]);
            }
            e.text("book 1", "spring", -8).text("book 2", "", -1000).due("dig 1 3 0", 0);
        }
        e.text("plain", "ice 0;", 1).due("told 0", 2).due("told 3", 1).text("book 1", "", -1).due("told 0", 0);
        e.due("told 3", 0);
        Edge.by("Promise 38", "1 how many LINES are ahead of the one that is WRONG (all, if none is)");
        Edge.on(Hill.TEXT).text("book 0", "spring 1;spring 2;", -1).due("told 1", 2);
        Edge.on(Hill.TEXT).text("book 0", "spring 1;spring 2;left digs 5 5;", 2).due("told 1", 2);
        Edge.by("Promise 38", "2 how many SPRINGS have been then, 3 FIELDS that are the left one's then, as bits");
        Edge f = Edge.on("plain 3 2;source 1;ice 0;field a 0 1 1;field b 1 1 1;field c 2 1 1;field d 0 0 1;");
        f.due("side 0 1", 8).text("book 0", "right digs 2 1;", -1).due("told 3", 8);
        f.text("book 0", "right digs 2 1;years 1;", -1).due("told 3", 8 + 1 + 2).due("side 0 1", 8);
        Edge.by("Promise 38", "NONE: another what, or ahead of any");
        Edge g = Edge.on(Hill.TEXT).text("book 0", "years", -7).text("book 5", "", -1000);
        for (int what = -1; what <= 4; what++) {
            g.due("told " + what, -1);
        }
        g.text("book 0", "", -1).outside("told 0", -1, 0, 3);
    }
}
