/** Edges of the tape, of what is asked, of DEEDS, of images, and of what a new object and a new PLAIN are. */
final class EdgesOfAnswers {
    private static final int NONE = -1;

    private EdgesOfAnswers() {
    }

    static void all() {
        newObject();
        feeding();
        cutting();
        fields();
        mills();
        cells();
        beds();
        sides();
        nows();
        richest();
        deeds();
        bytes();
        images();
        restored();
        counts();
        newPlain();
        throwing();
        calls();
    }

    /** 6 by 6 with HEIGHTS of this digit alone. */
    private static String level(int height) {
        StringBuilder text = new StringBuilder("plain 6 6;");
        for (int c = 0; c < 36; c++) {
            text.append("land ").append(c % 6).append(' ').append(c / 6).append(' ').append(height).append(';');
        }
        return text.toString();
    }

    /** Ten FIELDS of this WORTH, five in a row from this X on, in two rows. */
    private static String ten(int from, int worth) {
        StringBuilder text = new StringBuilder();
        for (int f = 0; f < 10; f++) {
            text.append("field ").append((char) ('a' + f)).append(' ').append(from + f % 5).append(' ').append(f / 5);
            text.append(' ').append(worth).append(';');
        }
        return text.toString();
    }

    private static void newObject() {
        Edge.by("Promise 1", "A PLAIN of 5 by 5 without FIELDS; an empty tape.");
        Edge e = new Edge().due("count 0", 0).due("count 1", 5).due("count 2", 5).due("count 6", 0).due("end 1", 0);
        e.due("count 3", 0).due("count 4", 2).due("count 5", 0).due("side 0 0", 9).due("side 1 0", 9).bed(0);
        for (int c = 0; c < 25; c++) {
            e.due("height " + c % 5 + " " + c / 5, 5).due("bank " + c % 5 + " " + c / 5, c % 5 == 0 ? 2 : 1);
        }
        new Edge().same(Edge.on("")).same(Edge.on("plain 5 5;source 0;ice 2;purse left 9;purse right 9;"));
        Edge f = new Edge().due("sentence", -1).due("plain", 0).due("ran", NONE).due("book 1", -1);
        f.refused("field 0 0", Edge.THROWS).refused("undo", NONE).refused("restore 0", 0).refused("restore 1", 0);
        f.refused("said -1", NONE).refused("ago 1 0", NONE).refused("byteAt 0", NONE).refused("ranAt 0", NONE);
    }

    private static void feeding() {
        Edge.by("Promise 2", "Twenty bytes come behind the tape, of each number the highest first: how many it has;");
        // "field abcdefg 0 0 1;"
        Edge e = new Edge().due("feed 1718183276 1679843682 1667523942 1730162720 807416123", 20).due("plain", 1);
        e.deed(0, "abcdefg is wet at 0 0");
        // the same, each number turned round, and the numbers turned round
        new Edge().due("feed 1818585446 1650532452 1717920867 540024935 993075248", 20).due("plain", -1).due("fault", 1);
        new Edge().due("feed 807416123 1730162720 1667523942 1679843682 1718183276", 20).due("plain", -1);
        // bytes above 127, at each of twenty places: as a FIELD or a bank there are none such
        for (int i = 0; i < 20; i++) {
            for (int bad : new int[] {3, 127, 128, 255}) {
                int[] bytes = new int[20];
                bytes[i] = bad;
                Edge.on("field a 1 0 1;").tape(bytes).due("count 6", 20).due("ran", NONE);
            }
        }
        // from 2, 3 and 4 there are 69, 60 and 35 BEDS
        Edge.on("field a 1 0 1;").tape(new int[20]).due("ran", 69 + 60 + 35);
        new Edge().due("feed MIN MAX -1 0 1", 20).due("plain", -1).due("fault", 1);
        Edge.by("Promise 2", "NONE, and none come, if it would have more than 940");
        Edge f = new Edge();
        for (int i = 1; i <= 47; i++) {
            f.due("feed 0 0 0 0 0", 20 * i);
        }
        f.refused("feed 1 1 1 1 1", NONE).due("count 6", 940).refused("feed MIN MAX 0 0 0", NONE);
        for (int n : new int[] {939, 930, 921}) {
            f.due("end " + n, 1).refused("feed 1 1 1 1 1", NONE).due("count 6", n);
        }
        f.due("end 920", 1).due("feed 0 0 0 0 0", 940).due("end 919", 1).due("feed 0 0 0 0 0", 939).due("plain", -1);
        // a refused feed leaves the bytes that are there
        Edge g = new Edge().tape("ice 1;" + " ".repeat(934)).due("feed 0 0 0 0 0", NONE).due("end 6", 1).due("plain", 1);
        g.due("count 4", 1);
        // behind what is there, at any place
        for (int n = 0; n < 20; n++) {
            new Edge().tape(" ".repeat(n)).due("feed 1718183276 1679843682 1667523942 1730162720 807416123", n + 20).due("plain", 1);
        }
    }

    private static void cutting() {
        Edge.by("Promise 3", "The tape has its first n bytes alone: true; false, if it has not so many, or n is below 0.");
        Edge e = new Edge().due("end 0", 1).refused("end 1", 0).refused("end -1", 0).refused("end MIN", 0).refused("end MAX", 0);
        e.due("feed 1 2 3 4 5", 20).refused("end 21", 0).refused("end -1", 0).refused("end 940", 0).due("count 6", 20);
        e.due("end 20", 1).due("count 6", 20).due("end 19", 1).due("count 6", 19).refused("end 20", 0).due("end 1", 1);
        e.due("count 6", 1).due("end 0", 1).due("count 6", 0).refused("end 1", 0);
        Edge f = new Edge().tape(" ".repeat(940)).due("end 940", 1).refused("end 941", 0).refused("end MAX", 0).refused("end MIN", 0);
        f.due("end 939", 1).refused("end 940", 0).due("count 6", 939);
        new Edge().tape("ice 1;ice 2;").due("end 6", 1).due("plain", 1).due("count 4", 1);
        new Edge().tape("ice 1;source 4;").due("end 15", 1).due("plain", 2).due("count 3", 4);
        new Edge().tape("ice 1;source 4;").due("end 14", 1).due("plain", -15).due("fault", 1);
    }

    private static void fields() {
        Edge.by("Promise 6", "Of a FIELD: 0 X, 1 Y, 2 WORTH, 3 whose it is (0, 1; 2 wet), 4 how often it CHANGED.");
        Edge e = Edge.on("plain 6 6;source 1;ice 0;field a 0 0 1;field b 5 5 20;field c 1 0 7;field d 1 1 3;");
        int[][] due = {{0, 0, 1, 0, 0}, {5, 5, 20, 1, 0}, {1, 0, 7, 2, 0}, {1, 1, 3, 1, 0}};
        for (int f = 0; f < 4; f++) {
            for (int what = 0; what < 5; what++) {
                e.due("field " + f + " " + what, due[f][what]);
            }
        }
        e.due("dig 1 1 1", 0).due("spring 0", 1).due("field 3 3", 2).due("field 3 4", 1).due("field 2 4", 0);
        Edge.by("Promise 6", "NoSuchElementException: no such ones");
        e.outside("field 0 0", Edge.THROWS, 0, 3, 0, 4).outside("field 3 4", Edge.THROWS, 0, 3, 0, 4);
        Edge.on("plain 6 2;" + ten(0, 1)).outside("field 9 4", Edge.THROWS, 0, 9, 0, 4);
        new Edge().outside("field 0 0", Edge.THROWS, 0, NONE, 0, 4).refused("field 0 0", Edge.THROWS);
    }

    private static void mills() {
        Edge.by("Promise 7", "Of a MILL: 0 X, 1 Y, 2 on whose bank (0, 1; 2 in the BED), 3 how often it rolled so far. NONE: no such ones");
        Edge e = Edge.on("plain 6 6;source 1;mill a 0 0;mill b 5 5;mill c 1 0;");
        int[][] due = {{0, 0, 0, 0}, {5, 5, 1, 0}, {1, 0, 2, 0}};
        for (int m = 0; m < 3; m++) {
            for (int what = 0; what < 4; what++) {
                e.due("mill " + m + " " + what, due[m][what]);
            }
        }
        e.outside("mill 0 0", NONE, 0, 2, 0, 3).outside("mill 2 3", NONE, 0, 2, 0, 3);
        e.due("roll 1 4 5", 0).due("roll 1 4 4", 0).due("roll 1 0 0", 1).due("roll 2 2 0", 2).due("mill 1 3", 2);
        e.due("mill 2 3", 0).due("mill 1 0", 4).due("mill 1 1", 4);
        Edge.on("mill a 4 4;").outside("mill 0 3", NONE, 0, 0, 0, 3);
        new Edge().refused("mill 0 0", NONE).refused("mill 0 3", NONE);
    }

    private static void cells() {
        Edge.by("Promise 8", "HEIGHT of a cell; NONE: no such one");
        int[][] sizes = {{3, 2}, {6, 6}, {5, 5}, {3, 6}, {6, 2}};
        for (int[] size : sizes) {
            int x = size[0] - 1;
            int y = size[1] - 1;
            Edge e = Edge.on("plain " + size[0] + " " + size[1] + ";land 0 0 0;land " + x + " " + y + " 9;");
            e.due("height 0 0", 0).due("height " + x + " " + y, 9).due("height " + x + " 0", 5).due("height 0 " + y, 5);
            e.outside("height 0 0", NONE, 0, x, 0, y).outside("height " + x + " " + y, NONE, 0, x, 0, y);
        }
        Edge.by("Promise 9", "The bank of a cell: 0, 1; 2 the BED; NONE: no such one");
        for (int[] size : sizes) {
            int x = size[0] - 1;
            int y = size[1] - 1;
            Edge e = Edge.on("plain " + size[0] + " " + size[1] + ";source 1;");
            e.due("bank 0 0", 0).due("bank 1 0", 2).due("bank 2 0", 1).due("bank " + x + " " + y, 1).due("bank 0 " + y, 2);
            e.outside("bank 0 0", NONE, 0, x, 0, y).outside("bank " + x + " " + y, NONE, 0, x, 0, y);
        }
    }

    private static void beds() {
        Edge.by("Promise 10", "X of the BED in a row; NONE: no such one");
        Edge.on("plain 6 6;source 5;").outside("bed 0", NONE, 0, 5).refused("bed 0", 5).refused("bed 5", 0).due("bed 3", 2);
        Edge.on("plain 3 2;source 2;").outside("bed 1", NONE, 0, 1).due("bed 0", 2).due("bed 1", 1);
        new Edge().outside("bed 4", NONE, 0, 4).due("bed 4", 0);
    }

    private static void sides() {
        Edge.by("Promise 11", "Of a SIDE: 0 its coin, 1 FIELDS that are its, as bits, 2 their WORTH, 3 how often it worked so far.");
        Edge e = Edge.on("plain 6 2;purse left 0;purse right 99;ice 0;" + ten(1, 20));
        e.due("side 0 0", 0).due("side 1 0", 99).due("side 0 1", 0).due("side 1 1", 1023).due("side 0 2", 0).due("side 1 2", 200);
        e.due("dig 1 5 0", 0).due("lay 1 5 0", 0).due("dig 0 0 0", 1).due("lay 1 0 9", NONE).due("side 1 3", 2).due("side 0 3", 0);
        e.due("side 1 0", 97).due("spring 1", 0).due("side 1 0", 147).due("side 1 3", 2);
        Edge left = Edge.on("plain 6 2;source 5;land 5 1 4;mill x 0 0;" + ten(0, 1)).due("side 0 1", 1023).due("side 0 2", 10);
        left.due("side 1 1", 0).due("roll 0 0 1", 0).due("side 0 3", 0).due("side 1 3", 0).due("side 0 0", 9);
        Edge wet = Edge.on("field a 0 0 20;").due("side 0 1", 0).due("side 1 1", 0).due("side 0 2", 0).due("side 1 2", 0);
        Edge.by("Promise 11", "NONE: no such ones");
        e.outside("side 0 0", NONE, 0, 1, 0, 3).outside("side 1 3", NONE, 0, 1, 0, 3);
        wet.refused("side 2 1", NONE).refused("side 2 0", NONE);
        new Edge().outside("side 1 1", NONE, 0, 1, 0, 3);
    }

    private static void nows() {
        Edge.by("Promise 12", "0 how many SPRINGS have been, 1 wet FIELDS, as bits, 2 HEIGHTS of the BED in all, 3 in how many rows its X is another one than in the row ahead, 4 how often FIELDS CHANGED so far.");
        Edge.on(level(0)).due("now 2", 0).due("now 3", 0).due("now 0", 0).due("now 1", 0).due("now 4", 0);
        Edge.on(level(9) + "source 5;").due("now 2", 54).due("now 3", 5);
        Edge.on("plain 3 2;source 1;").due("now 3", 1).due("now 2", 10);
        Edge.on("plain 3 2;").due("now 3", 0);
        Edge.on("plain 6 6;source 1;").bed(100000).due("now 3", 1);
        Edge.on("plain 6 6;source 1;land 1 1 4;land 0 2 4;land 1 3 4;land 0 4 4;land 1 5 4;").bed(110101).due("now 3", 4);
        Edge wet = Edge.on("ice 0;" + ten(0, 1)).due("now 1", 1 + 32).due("dig 1 1 1", 0).due("now 1", 33).due("spring 1", 2);
        wet.due("now 0", 1).due("now 1", 1 + 64).due("now 2", 24).due("now 3", 2).due("now 4", 2).due("lay 1 1 1", 0);
        wet.due("now 2", 25).due("spring 1", 2).due("now 0", 2).due("now 1", 33).due("now 3", 0).due("now 4", 4);
        Edge.by("Promise 12", "NONE for another what");
        wet.outside("now 0", NONE, 0, 4).outside("now 4", NONE, 0, 4);
        new Edge().outside("now 2", NONE, 0, 4);
    }

    private static void richest() {
        Edge.by("Promise 34", "The FIELD with the most WORTH that is a SIDE's (of like ones the first); NONE: it has none, no such one");
        Edge e = Edge.on("plain 6 2;source 2;field a 0 0 1;field b 5 0 20;field c 2 0 20;field d 1 0 2;field e 0 1 2;field g 4 1 20;");
        e.due("richest 0", 3).due("richest 1", 1).outside("richest 0", NONE, 0, 1);
        Edge.on("field a 1 0 1;").due("richest 1", 0).due("richest 0", NONE);
        Edge.on("source 1;field a 0 0 1;").due("richest 0", 0).due("richest 1", NONE);
        Edge.on("field a 0 0 20;").due("richest 0", NONE).due("richest 1", NONE).refused("richest 2", NONE);
        Edge.on("plain 6 2;" + ten(1, 20)).due("richest 1", 0).due("richest 0", NONE);
        Edge.on("plain 6 2;" + ten(1, 20).replace(" 1 20;", " 1 19;")).due("richest 1", 0);
        Edge.on("plain 6 2;" + ten(1, 19).replace("field j 5 1 19;", "field j 5 1 20;")).due("richest 1", 9);
        new Edge().due("richest 0", NONE).due("richest 1", NONE).outside("richest 1", NONE, 0, 1);
    }

    private static void deeds() {
        Edge.by("==== 3.", "DEED of a FIELD: its NAME, then ' is left', ' is right', ' is wet', ' at ' X, a blank, Y as digits.");
        Edge e = Edge.on("plain 6 6;source 1;field a 1 0 1;field b 0 0 1;field c 2 0 1;field zyxwvut 5 5 20;field d 0 5 1;");
        e.deed(0, "a is wet at 1 0").deed(1, "b is left at 0 0").deed(2, "c is right at 2 0");
        e.deed(3, "zyxwvut is right at 5 5").deed(4, "d is wet at 0 5");
        Edge.by("Promise 35", "DEED of a FIELD: how many bytes; NONE: no such one");
        e.due("deed 0", 15).due("deed 1", 16).due("deed 2", 17).due("deed 3", 23).outside("deed 0", NONE, 0, 4);
        e.due("byteAt 0", 'z').outside("deed 4", NONE, 0, 4).due("byteAt 22", '5');
        Edge.on("plain 6 2;" + ten(0, 1)).outside("deed 9", NONE, 0, 9).deed(9, "j is right at 4 1");
        new Edge().refused("deed 0", NONE).refused("deed -1", NONE);
        e.changing("deed 0", 15, "byteAt");
    }

    private static void bytes() {
        Edge.by("Promise 36", "Byte i of the latest DEED; NONE: none such");
        Edge e = Edge.on("plain 6 6;field abcdefg 5 5 1;field h 0 0 1;");
        for (String i : new String[] {"-1", "0", "22", "MIN", "MAX"}) {
            e.due("byteAt " + i, NONE);
        }
        e.due("deed 2", NONE).due("byteAt 0", NONE).due("deed 0", 23).outside("byteAt 0", NONE, 0, 22).due("byteAt 22", '5');
        e.due("deed 2", NONE).due("byteAt 22", '5').due("deed 1", 15).outside("byteAt 14", NONE, 0, 14).due("byteAt 0", 'h');
        e.due("byteAt 14", '0').due("byteAt 15", NONE).due("byteAt 22", NONE);
        e.text("plain", "", 0).due("byteAt 0", 'h').due("deed 0", NONE).due("byteAt 14", '0').due("byteAt 15", NONE);
        // as it was told, not as it is
        Edge f = Edge.on("plain 3 2;ice 0;field a 1 1 1;").deed(0, "a is right at 1 1").due("dig 1 1 1", 0).due("spring 1", 1);
        f.due("byteAt 5", 'r').deed(0, "a is wet at 1 1");
    }

    private static final String BUSY = "plain 3 2;source 1;ice 5;field a 0 1 7;field b 2 1 9;mill x 2 0;purse left 50;";

    private static Edge busy() {
        Edge e = Edge.on(BUSY).due("dig 1 2 1", 0).due("roll 0 2 1", 0).due("years 9 3", 9).due("lay 0 1 0", 0);
        e.text("sentence", "worth>8", 1).led("deed 1").led("tempted 1 1 0").led("tempted 1 0 1").led("pushed 0 2");
        return e.led("duel 0").tape(0, 0).due("ran", 5).text("book 0", "left digs 5 5;", 0);
    }

    private static void images() {
        Edge.by("Promise 41", "PLAIN, all that is so and the SENTENCE are kept in place k (0, 1): true; false: no such one");
        Edge e = busy().outside("image 0", 0, 0, 1).changing("image 0", 1, "behind restore 0").outside("image 1", 0, 0, 1);
        e.changing("image 1", 1, "behind restore 1").due("dig 1 2 0", 0).outside("image 1", 0, 0, 1);
        Edge.by("Promise 41", "all that is so");
        // kept ahead of other SPRINGS, another SENTENCE, another PLAIN
        Edge f = busy().due("image 1", 1).due("years 9 4", 9).text("sentence", "left", 1).due("dig 1 2 0", 0).due("image 0", 1);
        f.text("plain", "plain 6 6;field z 5 5 20;", 2).text("sentence", "right", 1).due("restore 1", 1);
        String[] told = {"behind", "fault", "told"};
        f.same(busy(), told).due("said 0", 1).due("undo", NONE).due("restore 0", 1).due("now 0", 18).due("undo", NONE);
        f.due("restore 1", 1).same(busy(), told).due("said -1", 1);
    }

    private static void restored() {
        Edge.by("Promise 42", "true; false: no such one, or nothing is kept there");
        Edge e = busy().refused("restore 0", 0).refused("restore 1", 0).outside("restore 0", 0, 0, 1).due("image 1", 1);
        e.refused("restore 0", 0).outside("restore 1", 0, 0, 1).due("image 0", 1).outside("restore 0", 0, 0, 1);
        Edge one = busy().due("image 0", 1).refused("restore 1", 0).text("plain", "", 0).refused("restore 1", 0);
        one.due("restore 0", 1).due("count 1", 3);
        Edge.by("Promise 42", "(the tape, and what other calls told last, stays; nothing can be undone)");
        Edge f = busy().due("image 0", 1).tape("left").changing("restore 0", 1, "undone");
        f.refused("undo", NONE).due("count 6", 4).due("sentence", 1).due("restore 0", 1).due("said 0", 1);
        f.due("dig 1 2 0", 0).due("undo", 0).due("undo", NONE).due("restore 0", 1).due("restore 0", 1);
        // what was told on another PLAIN stays, the FAULT too
        Edge g = busy().due("image 0", 1).text("plain", "plain 6 6;field z 5 5 20;", 2).due("deed 0", 17).due("duel 1", 20);
        g.text("book 0", "left digs 5 5;", 0).text("sentence", "or", -1).tape(0, 2).due("ran", 96).due("restore 0", 1);
        g.due("byteAt 0", 'z').due("duelAt 0", -2).due("told 0", 2).due("fault", 1).due("ranAt 5", 5).due("sure 5", 5);
        g.text("sentence", "worth=9", 1).due("said 0", 1).due("restore 0", 1).due("fault", 0);
    }

    private static void counts() {
        Edge.by("Promise 43", "0 FIELDS, 1 WIDE, 2 HIGH, 3 the SOURCE, 4 'ice', 5 MILLS, 6 bytes of the tape. NONE for another what");
        Edge e = Edge.on("plain 6 6;source 5;ice 5;mill x 0 0;mill y 0 0;mill z 0 0;" + ten(0, 1)).tape(" ".repeat(940));
        int[] most = {10, 6, 6, 5, 5, 3, 940};
        Edge f = Edge.on("plain 3 2;source 0;ice 0;");
        int[] least = {0, 3, 2, 0, 0, 0, 0};
        for (int what = 0; what < 7; what++) {
            e.due("count " + what, most[what]);
            f.due("count " + what, least[what]);
        }
        e.outside("count 0", NONE, 0, 6);
        f.outside("count 6", NONE, 0, 6);
        new Edge().outside("count 3", NONE, 0, 6);
    }

    private static void newPlain() {
        Edge.by("==== 3.", "A new PLAIN: no SPRING has been, HEIGHTS and purses as told, no SENTENCE; nothing can be undone");
        String[] told = {"behind restore", "temptedAt", "pushedAt", "duelAt", "byteAt", "ranAt", "sure", "told", "fault"};
        for (String next : new String[] {"", "plain 6 6;", BUSY, "field a 1 1 3;mill m 2 2;purse left 0;land 0 0 0;"}) {
            Edge e = busy().tape(next).led("plain");
            e.same(Edge.on(next), told).refused("undo", NONE).due("said -1", NONE).due("now 0", 0).due("ago 1 0", NONE);
        }
        // whatever PLAINS and FAULTS have been read before
        Edge many = busy();
        for (String next : new String[] {BUSY, "plain 6 6;source 5;ice 0;" + ten(0, 20), "plain 6 6;source 5;ice 4;ice"}) {
            many.tape(next).led("plain").led("years 9 3").led("dig 1 2 0").led("roll 0 2 1").led("lay 0 0 0");
        }
        many.text("plain", "source 4;ice 3;land 0 0 1;field c 4 4 4;mill k 1 1;purse left 7;purse right 7;x", -79);
        many.text("plain", "", 0).same(Edge.on(""), told).text("plain", BUSY, 7).same(Edge.on(BUSY), told);
        many.text("plain", "", 0).same(Edge.on(""), told).bed(0);
        Edge.by("==== 3.", "(what other calls told last stays)");
        Edge e = Edge.on("plain 3 2;source 1;ice 0;field abc 2 0 7;land 0 1 4;field d 1 1 3;").deed(0, "abc is right at 2 0");
        e.due("tempted 1 0 1", NONE).due("tempted 1 1 1", 0).due("pushed 1 1", 10).due("duel 1", 10).tape(1, 2).due("ran", 3);
        e.text("book 0", "left digs 5 5;", 0).due("image 0", 1).text("plain", "plain 6 6;field z 5 5 1;", 2).due("fault", 0);
        e.due("byteAt 0", 'a').due("byteAt 18", '0').due("duelAt 0", -2).due("duelAt 1", -2).due("ranAt 1", 1).due("sure 1", 1);
        e.due("ranAt 2", NONE).due("told 0", 9).due("temptedAt 0", NONE).due("pushedAt 0", NONE).due("restore 1", 0);
        e.due("restore 0", 1).due("count 1", 3).due("said -1", NONE).due("undo", NONE);
    }

    private static void throwing() {
        Edge.by("==== 3.", "A call that throws changes nothing.");
        Edge e = busy().due("image 0", 1);
        for (String call : new String[] {"field 2 0", "field -1 0", "field 0 5", "field 0 -1", "field MAX MIN", "duel 2", "duel -1",
            "duel MIN", "duel MAX"}) {
            e.refused(call, Edge.THROWS);
        }
        e.tape("left").refused("field 2 0", Edge.THROWS).refused("duel 2", Edge.THROWS).due("count 6", 4).due("sentence", 1);
    }

    private static void calls() {
        Edge.by("==== 1.", "An object is used for at most 512 calls after it has been made");
        Edge e = Edge.on("plain 3 2;ice 0;field a 1 0 7;");
        // six so far; all but the last of the others: five ditches, then HEIGHT 0
        for (int i = 6; i < 511; i++) {
            e.due("dig 1 2 0", i < 11 ? 0 : 3);
        }
        e.due("undo", 4);
    }
}
