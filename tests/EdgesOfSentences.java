/** Edges of a SENTENCE's text, of its FAULTS, and of what it is said of. */
final class EdgesOfSentences {
    /**
     * The BED is 2 3. In the first row a b c d e at X 0 to 4, c wet; in the second f g h i j at X 0 to 4, i wet; WORTH 1
     * to 9 and 20. HEIGHTS are 0 at a, 9 at e, 4 at i, else 5.
     */
    private static final String TEN = "plain 5 2;source 2;ice 0;land 0 0 0;land 4 0 9;land 3 1 4;field a 0 0 1;"
        + "field b 1 0 2;field c 2 0 3;field d 3 0 4;field e 4 0 5;field f 0 1 6;field g 1 1 7;field h 2 1 8;"
        + "field i 3 1 9;field j 4 1 20;mill m 0 0;";

    private EdgesOfSentences() {
    }

    static void all() {
        most();
        grammar();
        ones();
        within();
        faults();
        sides();
        near();
        same();
        above();
        compared();
        joins();
        counted();
        said();
        stays();
    }

    private static void most() {
        Edge.by("Terms", "A SENTENCE is a text of at most 200 bytes");
        Edge e = Edge.on(TEN).text("sentence", "wet", 1);
        e.text("sentence", "left" + " ".repeat(195), 1).text("sentence", "left" + " ".repeat(196), 1);
        e.text("sentence", " ".repeat(196) + "left", 1);
        e.fault("sentence", "left" + " ".repeat(197), 1, 200).fault("sentence", " ".repeat(197) + "left", 1, 200);
        e.fault("sentence", " ".repeat(201), 1, 200).fault("sentence", " ".repeat(200), 1, 200);
        e.fault("sentence", " ".repeat(199), 1, 199).fault("sentence", " ".repeat(940), 1, 200);
        // read whole over the 200th byte: 'left' is no 'lef', 'leftleft' no WORD, 51 no 5
        e.fault("sentence", " ".repeat(199) + "left", 1, 200).fault("sentence", " ".repeat(200) + "lef", 1, 200);
        e.fault("sentence", " ".repeat(199) + "lef", 1, 199).fault("sentence", " ".repeat(196) + "leftleft", 1, 196);
        e.fault("sentence", " ".repeat(193) + "worth=5111", 1, 199).fault("sentence", " ".repeat(193) + "worth=511", 1, 200);
        e.fault("sentence", " ".repeat(195) + "same other", 1, 200).fault("sentence", " ".repeat(194) + "same other", 3, 199);
    }

    private static void grammar() {
        Edge.by("Terms", "COND: ALL { 'or' ALL }. ALL: ONE { 'and' ONE }. ONE: 'not' ONE | ( COND ) |");
        Edge e = Edge.on(TEN);
        e.fault("sentence", "", 1, 0).fault("sentence", "  \n", 1, 3);
        String[] whole = {"left", "not left", "(left)", "not (left)", "left or wet", "left and wet", "((left or wet))"};
        int[] ones = {1, 2, 2, 3, 2, 2, 4};
        for (int i = 0; i < whole.length; i++) {
            e.text("sentence", whole[i], ones[i]);
            for (String bad : new String[] {"left", ")", ";", "a", "1", "not", "(", "or or", "A"}) {
                e.text("sentence", whole[i] + " " + bad, -1 - whole[i].length() - (bad.equals("or or") ? 4 : 1));
                e.due("fault", 1);
            }
            for (String join : new String[] {" or", " and", " or not", " and ("}) {
                int end = whole[i].length() + join.length();
                e.text("sentence", whole[i] + join, -1 - end).due("fault", 1);
            }
        }
        Edge f = Edge.on(TEN);
        for (String bad : new String[] {"or", "and", ")", ";", "<", "5", "a", "nobody", "plain", "digs", "years", "Left"}) {
            f.text("sentence", bad, -1).due("fault", 1).text("sentence", "not " + bad, -5).due("fault", 1);
            f.text("sentence", "(" + bad, -2).due("fault", 1).text("sentence", "wet and " + bad, -9).due("fault", 1);
        }
        f.fault("sentence", "(", 1, 1).fault("sentence", "(left", 1, 5).fault("sentence", "(left or)", 1, 8);
        f.fault("sentence", "()", 1, 1).fault("sentence", "not", 1, 3).fault("sentence", "(left)(wet)", 1, 6);
    }

    private static void ones() {
        Edge.by("Terms", "20 ONES, 8 within one another");
        Edge e = Edge.on(TEN).text("sentence", "wet", 1);
        e.text("sentence", "wet or ".repeat(18) + "wet", 19).text("sentence", "wet or ".repeat(19) + "wet", 20);
        e.text("sentence", "wet and ".repeat(19) + "wet", 20);
        StringBuilder sixteen = new StringBuilder("number=0");
        for (int f = 1; f < 16; f++) {
            sixteen.append(" or number=").append(f);
        }
        e.says(sixteen.toString(), 0, 1, 2, 3, 4, 5, 6, 7, 8, 9).text("sentence", sixteen.toString(), 16);
        e.says("wet or ".repeat(18) + "wet or number=9", 2, 8, 9).says("left and ".repeat(19) + "number>6", 7);
        e.text("sentence", "(wet)or ".repeat(9) + "(wet)", 20).text("sentence", "not wet or ".repeat(9) + "not wet", 20);
        Edge.by("Terms", "a 21st ONE, a ninth within (at its first TOKEN)");
        String twenty = "wet or ".repeat(20);
        for (String one : new String[] {"wet", "left", "right", "near", "not", "(", "same", "same nobody", "above", "worth",
            "height", "changed", "number"}) {
            e.text("sentence", twenty + one, -1 - 140).due("fault", 4);
        }
        e.fault("sentence", twenty + "wet", 4, 140).fault("sentence", "(wet)or ".repeat(9) + "(wet or wet)", 4, 80);
        e.fault("sentence", "not wet or ".repeat(9) + "not not wet", 4, 107);
        e.fault("sentence", twenty, 1, 140).fault("sentence", twenty + "a", 1, 140).fault("sentence", twenty + ")", 1, 140);
    }

    private static void within() {
        Edge.by("Terms", "20 ONES, 8 within one another");
        Edge e = Edge.on(TEN);
        e.says("not ".repeat(6) + "wet", 2, 8).text("sentence", "not ".repeat(6) + "wet", 7);
        e.says("not ".repeat(7) + "wet", 0, 1, 3, 4, 5, 6, 7, 9).text("sentence", "not ".repeat(7) + "wet", 8);
        e.text("sentence", "(".repeat(7) + "wet" + ")".repeat(7), 8).text("sentence", "not(".repeat(3) + "not wet)))", 8);
        // one behind another they are not within one another
        e.text("sentence", "not ".repeat(7) + "wet or " + "not ".repeat(7) + "wet", 16);
        e.text("sentence", "(".repeat(7) + "wet or wet and wet" + ")".repeat(7) + "or wet", 11);
        Edge.by("Terms", "a ninth within (at its first TOKEN)");
        e.fault("sentence", "not ".repeat(8) + "wet", 4, 32).fault("sentence", "not ".repeat(8) + "(", 4, 32);
        e.fault("sentence", "(".repeat(8) + "wet", 4, 8).fault("sentence", "(".repeat(9), 4, 8);
        e.fault("sentence", "not(".repeat(4) + "wet", 4, 16).fault("sentence", "not ".repeat(8) + "not", 4, 32);
        e.fault("sentence", "(".repeat(7) + "wet or not wet", 4, 18).fault("sentence", "(".repeat(8), 1, 8);
        e.fault("sentence", "(".repeat(8) + ")", 1, 8).fault("sentence", "(".repeat(8) + "a", 1, 8);
    }

    private static void faults() {
        Edge.by("Terms", "'same' FIELD (both on one bank, none of them wet; itself, too) | 'above' FIELD");
        Edge e = Edge.on(TEN);
        for (String one : new String[] {"same", "above"}) {
            int n = one.length();
            for (String bad : new String[] {"", "5", "<", "(", "left", "plain", "years", "A", "a1"}) {
                e.text("sentence", one + " " + bad, -1 - n - 1).due("fault", 1);
            }
            for (String bad : new String[] {"nobody", "m", "aa", "k"}) {
                e.text("sentence", one + " " + bad, -1 - n - 1).due("fault", 3);
            }
            e.text("sentence", one + " j", 1).text("sentence", one + "a", -1).due("fault", 1);
        }
        Edge.by("Terms", "( 'worth' | 'height' | 'changed' | 'number' ) SIGN NUMBER");
        for (String one : new String[] {"worth", "height", "changed", "number"}) {
            int n = one.length();
            for (String bad : new String[] {"5", "(", ";", "a", "left", "", ")"}) {
                e.text("sentence", one + " " + bad, -1 - n - 1).due("fault", 1);
            }
            for (String bad : new String[] {"", "a", "<", "=", "left", "1000", "5a", "("}) {
                e.text("sentence", one + " =" + bad, -1 - n - 2).due("fault", 1);
            }
            e.text("sentence", one + "=0", 1).text("sentence", one + "<999", 1).text("sentence", one + ">000", 1);
        }
    }

    private static void sides() {
        Edge.by("Terms", "'left' | 'right' (it is that one's) | 'wet' (it is nobody's)");
        Edge e = Edge.on(TEN).bed(23);
        e.says("left", 0, 1, 5, 6, 7).says("right", 3, 4, 9).says("wet", 2, 8);
        e.says("not left", 2, 3, 4, 8, 9).says("left or right or wet", 0, 1, 2, 3, 4, 5, 6, 7, 8, 9);
        e.says("left and right").says("left and wet").says("right and wet");
        Edge.on("source 0;field a 0 0 1;").says("left").says("right").says("wet", 0);
    }

    private static void near() {
        Edge.by("Terms", "'near' (the BED is next to it in its row)");
        Edge.on(TEN).says("near", 1, 3, 7, 9);
        Edge.on("plain 3 2;source 0;land 1 1 9;field a 0 0 1;field b 1 0 1;field c 2 0 1;").says("near", 1);
        Edge.on("plain 3 2;source 2;field a 0 1 1;field b 1 1 1;field c 2 1 1;").bed(21).says("near", 0, 2);
    }

    private static void same() {
        Edge.by("Terms", "(both on one bank, none of them wet; itself, too)");
        Edge e = Edge.on(TEN);
        e.says("same a", 0, 1, 5, 6, 7).says("same h", 0, 1, 5, 6, 7).says("same d", 3, 4, 9).says("same j", 3, 4, 9);
        e.says("same c").says("same i");
        Edge.on("field a 1 0 1;").says("same a", 0);
        Edge.on("field a 0 0 1;").says("same a");
    }

    private static void above() {
        Edge.by("Terms", "'above' FIELD (its row is ahead of that one's)");
        Edge e = Edge.on(TEN);
        e.says("above a").says("above e").says("above f", 0, 1, 2, 3, 4).says("above j", 0, 1, 2, 3, 4);
        Edge.on("field a 0 4 1;field b 4 3 1;field c 2 4 1;").says("above a", 1).says("above b").says("above c", 1);
    }

    private static void compared() {
        Edge.by("Terms", "(HEIGHT of its cell; how often it changed so far; its number). SIGN: < = >");
        Edge e = Edge.on(TEN);
        e.says("worth<1").says("worth<2", 0).says("worth=1", 0).says("worth>1", 1, 2, 3, 4, 5, 6, 7, 8, 9);
        e.says("worth>19", 9).says("worth=20", 9).says("worth>20").says("worth<20", 0, 1, 2, 3, 4, 5, 6, 7, 8);
        e.says("height<0").says("height=0", 0).says("height<1", 0).says("height>0", 1, 2, 3, 4, 5, 6, 7, 8, 9);
        e.says("height>8", 4).says("height=9", 4).says("height>9").says("height<5", 0, 8).says("height=4", 8);
        e.says("number<0").says("number=0", 0).says("number<1", 0).says("number>8", 9).says("number=9", 9);
        e.says("number>9").says("number>0", 1, 2, 3, 4, 5, 6, 7, 8, 9).says("number<999", 0, 1, 2, 3, 4, 5, 6, 7, 8, 9);
        Edge f = Edge.on(TEN).says("changed=0", 0, 1, 2, 3, 4, 5, 6, 7, 8, 9).says("changed>0").says("changed<0");
        // two ditches in 2 1 lead the BED there: i is the right one's then, h wet
        f.due("dig 0 2 1", 0).due("dig 0 2 1", 0).due("spring 0", 2).bed(22).says("changed=1", 7, 8);
        f.says("changed<1", 0, 1, 2, 3, 4, 5, 6, 9).says("changed>0", 7, 8).says("changed>1").says("wet", 2, 7);
        f.says("height=3", 7).due("undo", 2).says("changed>0").says("height=3", 7);
    }

    private static void joins() {
        Edge.by("Terms", "COND: ALL { 'or' ALL }. ALL: ONE { 'and' ONE }.");
        Edge e = Edge.on(TEN);
        e.says("wet or left and worth>6", 2, 6, 7, 8).says("(wet or left) and worth>6", 6, 7, 8);
        e.says("worth>6 and wet or left", 0, 1, 5, 6, 7, 8).says("worth>6 and (wet or left)", 6, 7, 8);
        e.says("not wet and worth>6", 6, 7, 9).says("not (wet and worth>6)", 0, 1, 2, 3, 4, 5, 6, 7, 9);
        e.says("not wet or wet", 0, 1, 2, 3, 4, 5, 6, 7, 8, 9).says("not (wet or left)", 3, 4, 9).says("not not wet", 2, 8);
        e.says("number=0 or number=1 and number=2 or number=3", 0, 3).says("number=0 and number=0 and number=0", 0);
        e.says("(number=0 or number=1) and (number=1 or number=2)", 1).says("wet and number>2 or right and number<4", 3, 8);
    }

    private static void counted() {
        Edge.by("Promise 39", "how many ONES (each not, bracket and other one); -1 less the place of a FAULT: it stays");
        Edge e = Edge.on(TEN);
        String[] texts = {"wet", "not wet", "(wet)", "not(not wet)", "wet or wet", "worth=1", "same a and above b",
            "((wet))or not not wet", "((wet)and(wet or not near))"};
        int[] ones = {1, 2, 2, 4, 2, 1, 2, 6, 7};
        for (int i = 0; i < texts.length; i++) {
            e.text("sentence", texts[i], ones[i]).due("fault", 0).due("count 6", 0);
        }
        e.text("sentence", "right", 1).fault("sentence", "or", 1, 0).fault("sentence", "same nobody", 3, 5);
        e.fault("sentence", "left and ", 1, 9).fault("sentence", "not ".repeat(8) + "wet", 4, 32).due("said -1", 3);
        Edge none = Edge.on(TEN).fault("sentence", "wet and", 1, 7);
        none.due("said -1", -1).due("said 0", -1);
    }

    private static void said() {
        Edge.by("Promise 40", "how many (k NONE), or the k-th. NONE: there is no SENTENCE, none such");
        Edge e = Edge.on(TEN);
        for (String k : new String[] {"-2", "-1", "0", "9", "10", "MIN", "MAX"}) {
            e.refused("said " + k, -1);
            new Edge().due("said " + k, -1);
        }
        e.says("wet", 2, 8).outside("said 0", -1, -1, 1);
        e.says("number<10", 0, 1, 2, 3, 4, 5, 6, 7, 8, 9).outside("said 0", -1, -1, 9);
        e.says("number>9").refused("said 0", -1).refused("said -2", -1).due("said -1", 0);
        new Edge().text("sentence", "not wet", 2).due("said -1", 0).due("said 0", -1);
    }

    private static void stays() {
        Edge.by("Promise 39", "The tape is the SENTENCE now");
        Edge e = Edge.on(TEN).says("wet", 2, 8).says("right and wet").says("near and right", 3, 9);
        e.due("dig 0 2 1", 0).due("dig 0 2 1", 0).due("years 1 0", 1).due("said -1", 2).due("said 1", 8);
        e.due("undo", 2).due("said -1", 2).due("said 1", 9);
        Edge.by("Terms", "It is said of FIELDS");
        Edge.on("mill a 0 0;").says("left or right or wet");
        Edge.on("mill a 0 0;field b 0 0 1;").says("left or right or wet", 0);
    }
}
