/** Edges of the TOKENS, of a PLAIN's text, and of the FAULTS that it may have. */
final class EdgesOfTexts {
    private static final String[] TOLD = {"plain", "land", "source", "field", "mill", "purse", "left", "right", "ice",
        "digs", "lays", "rolls", "spring", "years", "or", "and", "not", "wet", "near", "same", "above", "worth", "height",
        "changed", "number"};

    private EdgesOfTexts() {
    }

    static void all() {
        blanks();
        words();
        numbers();
        signs();
        most();
        lines();
        sizes();
        lands();
        sources();
        fields();
        mills();
        purses();
        ice();
        names();
        sorts();
        places();
        readWhole();
        kinds();
    }

    private static boolean isBlank(int c) {
        return c == 32 || c == 10;
    }

    private static boolean isDigit(int c) {
        return c >= 48 && c <= 57;
    }

    private static boolean isLetter(int c) {
        return c >= 97 && c <= 122;
    }

    private static void blanks() {
        Edge.by("Terms", "with blanks (32, 10) between them or not");
        Edge.reads(" \n\nice\n \n5  ; \n", 1);
        Edge.reads("ice 5;purse left 5;plain 3 2;", 3);
        Edge.reads("ice 5 ; purse left 5 ; plain 3 2 ; ", 3);
        for (int c = 0; c < 256; c++) {
            String ahead = (char) c + "ice 1;";
            String between = "ice" + (char) c + "1;";
            if (isBlank(c)) {
                Edge.reads(ahead, 1);
                Edge.reads(between, 1);
            } else {
                Edge.faulty(ahead, 1, 0);
                Edge.faulty(between, 1, isLetter(c) || isDigit(c) ? 0 : 3);
            }
        }
    }

    private static void words() {
        Edge.by("Terms", "WORDS: small letters, 1 to 7;");
        Edge.on("field a 0 0 1;").deed(0, "a is wet at 0 0");
        Edge.on("field z 0 0 1;").deed(0, "z is wet at 0 0");
        Edge.on("field abcdefg 0 0 1;").deed(0, "abcdefg is wet at 0 0");
        Edge.on("field hijklmn 0 0 1;").deed(0, "hijklmn is wet at 0 0");
        Edge.on("field opqrstu 0 0 1;").deed(0, "opqrstu is wet at 0 0");
        Edge.on("field vwxyzzz 0 0 1;").deed(0, "vwxyzzz is wet at 0 0");
        Edge.faulty("field abcdefgh 0 0 1;", 1, 6);
        Edge.faulty("field " + "a".repeat(14) + " 0 0 1;", 1, 6);
        for (int c : new int[] {96, 123, 'A', 'Z', 225}) {
            Edge.faulty("field " + (char) c + " 0 0 1;", 1, 6);
            Edge.faulty("field a" + (char) c + " 0 0 1;", 1, 7);
        }
        Edge.by("Terms", "A WORD, NUMBER goes on as long as small letters and digits do");
        Edge.faulty("ice5;", 1, 0);
        Edge.faulty("ice 5ice;", 1, 4);
        Edge.faulty("land 0 0 1;land1 0 1;", 1, 11);
        Edge.faulty("field a1 0 0 1;", 1, 6);
        Edge.faulty("field 1a 0 0 1;", 1, 6);
        Edge.faulty("field a 0 0 1field b 1 0 1;", 1, 12);
        Edge.reads("field a 0 0 1;field b 1 0 1;", 2);
    }

    private static void numbers() {
        Edge.by("Terms", "NUMBERS: 1 to 3 digits;");
        Edge.on("ice 5;").due("count 4", 5);
        Edge.on("ice 05;").due("count 4", 5);
        Edge.on("ice 005;").due("count 4", 5);
        Edge.on("ice 000;").due("count 4", 0);
        Edge.faulty("ice 0005;", 1, 4);
        Edge.faulty("ice 0000;", 1, 4);
        // as ints these would wrap around to 0 and 1
        Edge.faulty("ice 4294967296;", 1, 4);
        Edge.faulty("ice 18446744073709551617;", 1, 4);
        for (int digit = 0; digit < 10; digit++) {
            Edge.on("land 0 0 " + digit + ";").due("height 0 0", digit);
        }
        Edge.on("purse left 10;").due("side 0 0", 10);
        Edge.on("purse left 98;").due("side 0 0", 98);
        Edge.by("Terms", "what is not as told is no TOKEN");
        for (String bad : new String[] {"/", ":", "-1", "+1", "1.", "1,", "1-", "0x1", "one1"}) {
            boolean digitAhead = isDigit(bad.charAt(0)) && !bad.equals("0x1");
            Edge.faulty("ice " + bad + ";", 1, digitAhead ? 5 : 4);
        }
        Edge.faulty("Ice 1;", 1, 0);
        Edge.faulty("iCe 1;", 1, 0);
    }

    private static void signs() {
        Edge.by("Terms", "; < = > ( ) .");
        Edge.reads("ice 1;", 1);
        Edge.faulty("ice 1.", 1, 5);
        for (int c = 0; c < 256; c++) {
            Edge e = new Edge();
            if (c == '<' || c == '=' || c == '>') {
                e.text("sentence", "worth" + (char) c + "5", 1);
            } else {
                int place = isLetter(c) || isDigit(c) ? 0 : isBlank(c) ? 6 : 5;
                e.text("sentence", "worth" + (char) c + "5", -1 - place).due("fault", 1);
            }
        }
        new Edge().text("sentence", "(left)", 2).text("sentence", "((left)and(wet))", 5).text("sentence", ")", -1);
    }

    /** 633 bytes in 54 LINES: as much as a PLAIN may tell, in 6 by 6. */
    private static String everything() {
        StringBuilder text = new StringBuilder("plain 6 6;");
        for (int c = 0; c < 36; c++) {
            text.append("land ").append(c % 6).append(' ').append(c / 6).append(' ').append(c % 10).append(';');
        }
        for (int f = 0; f < 10; f++) {
            text.append("field ").append((char) ('a' + f)).append(' ').append(f % 6).append(' ').append(f / 6).append(" 20;");
        }
        for (int m = 0; m < 3; m++) {
            text.append("mill ").append((char) ('k' + m)).append(" 0 ").append(m).append(';');
        }
        return text + "purse left 99;purse right 99;source 5;ice 5;";
    }

    private static void most() {
        Edge.by("Terms", "A PLAIN is a text of at most 900 bytes");
        Edge.reads("", 0);
        String all = everything();
        Edge.that("bytes of everything", all.length(), 633);
        Edge.reads(all, 54);
        Edge.reads(all + " ".repeat(266), 54);
        Edge.reads(all + " ".repeat(267), 54);
        Edge.reads(" ".repeat(267) + all, 54);
        Edge.reads(" ".repeat(900), 0);
        Edge.faulty(all + " ".repeat(268), 1, 900);
        Edge.faulty(" ".repeat(268) + all, 1, 900);
        Edge.faulty(" ".repeat(901), 1, 900);
        Edge.faulty(all + " ".repeat(307), 1, 900);
        Edge.faulty(all + " ".repeat(267) + "x", 1, 900);
        Edge.faulty(all + " ".repeat(266) + "x ", 1, 899);
        Edge.by("Promise 4", "-1 less the place of a FAULT: it stays");
        Edge e = Edge.on(Hill.TEXT).due("dig 1 3 0", 0);
        e.fault("plain", ";", 1, 0).fault("plain", all + " ".repeat(268), 1, 900);
        e.fault("plain", "plain 3 2;ice 1;ice 1;", 3, 16).fault("plain", "ice 9;", 2, 4);
        e.fault("plain", "mill a 0 0;mill b 0 0;mill c 0 0;mill d 0 0;", 4, 33);
    }

    private static void lines() {
        Edge.by("Terms", "{ LINE ; }");
        Edge.reads("", 0);
        Edge.reads(" ", 0);
        Edge.reads("ice 1;", 1);
        Edge.reads("ice 1;source 1;", 2);
        Edge.faulty("ice 1", 1, 5);
        Edge.faulty("ice 1 source 1;", 1, 6);
        Edge.faulty("ice 1;source 1", 1, 14);
        Edge.faulty(";", 1, 0);
        Edge.faulty("ice 1;;", 1, 6);
        Edge.faulty("ice;", 1, 3);
        for (String bad : new String[] {"left 1;", "right;", "digs 0 0;", "spring 1;", "a;", "1;", "=", "(", "wet"}) {
            Edge.faulty(bad, 1, 0);
        }
        Edge.by("Promise 4", "how many LINES");
        Edge.reads(everything(), 54);
        Edge.by("Promise 4", "The tape (empty then, with a FAULT, too, here and below) is the PLAIN now");
        new Edge().tape("ice 1;").due("count 6", 6).due("plain", 1).due("count 6", 0).due("count 4", 1);
        new Edge().tape("ice 1").due("count 6", 5).due("plain", -6).due("count 6", 0).due("count 4", 2);
        new Edge().due("plain", 0).due("fault", 0);
        Edge e = Edge.on("ice 1;source 1;");
        e.due("plain", 0).due("count 3", 0).due("count 4", 2).due("count 6", 0);
        e.tape("left").due("sentence", 1).due("count 6", 0).tape("left or").due("sentence", -8).due("count 6", 0);
        e.tape("years 1;").due("book 0", -1).due("count 6", 0).tape("years").due("book 1", -7).due("count 6", 0);
        e.tape(0, 0).due("ran", -1).due("count 6", 0);
        // from X 0 there are 1 + 1, 2 + 2 + 1, 4 + 5 + 3 + 1, 9 + 12 + 9 + 4 + 1 BEDS, row by row
        Edge.on("field a 0 0 1;").tape(0, 2).due("ran", 35).due("count 6", 0);
    }

    private static void sizes() {
        Edge.by("Terms", "'plain' WIDE HIGH (3 to 6, 2 to 6;");
        for (int wide = 3; wide <= 6; wide++) {
            for (int high = 2; high <= 6; high++) {
                Edge e = Edge.on("plain " + wide + " " + high + ";");
                e.due("count 1", wide).due("count 2", high);
                e.due("height " + (wide - 1) + " " + (high - 1), 5).due("bank " + (wide - 1) + " " + (high - 1), 1);
                e.due("height " + wide + " 0", -1).due("height 0 " + high, -1);
                e.due("bank " + wide + " 0", -1).due("bank 0 " + high, -1);
                e.due("bed " + (high - 1), 0).due("bed " + high, -1);
                e.due("wouldAt " + (high - 1), 0).due("wouldAt " + high, -1);
            }
        }
        for (int bad : new int[] {0, 2, 7, 999}) {
            Edge.faulty("plain " + bad + " 3;", 2, 6);
        }
        for (int bad : new int[] {0, 1, 7, 999}) {
            Edge.faulty("plain 3 " + bad + ";", 2, 8);
        }
        Edge.by("Terms", "once, ahead of all cells; 5 by 5 without)");
        Edge.faulty("plain 3 2;plain 3 2;", 3, 10);
        Edge.faulty("plain 5 5;ice 1; plain 9 9;", 3, 17);
        Edge.reads("ice 1;purse left 1;purse right 1;plain 3 2;land 0 0 1;", 5);
        Edge.on("").due("count 1", 5).due("count 2", 5);
        Edge.on("land 4 4 1;field a 4 4 1;mill b 4 4;").due("count 1", 5).due("count 2", 5).due("height 4 4", 1);
        Edge.by("Terms", "'plain' behind a cell or the 'source' (at it)");
        Edge.faulty("land 0 0 1;plain 5 5;", 3, 11);
        Edge.faulty("field a 0 0 1;plain 5 5;", 3, 14);
        Edge.faulty("mill a 0 0;plain 5 5;", 3, 11);
        Edge.faulty("source 0;plain 5 5;", 3, 9);
        Edge.faulty("source 0; plain", 3, 10);
        Edge.by("Terms", "X 0 to WIDE less 1, Y 0 to HIGH less 1");
        for (int wide = 3; wide <= 6; wide++) {
            for (int high = 2; high <= 6; high++) {
                corner("plain " + wide + " " + high + ";", wide, high);
            }
        }
        corner("", 5, 5);
    }

    /** The last cell of a PLAIN may be told, the ones behind it in X or Y not. */
    private static void corner(String size, int wide, int high) {
        int x = wide - 1;
        int y = high - 1;
        int from = size.length();
        String land = size + "land ";
        Edge.on(land + x + " " + y + " 1;land 0 0 2;").due("height " + x + " " + y, 1).due("height 0 0", 2);
        Edge.faulty(land + wide + " 0 1;", 2, from + 5);
        Edge.faulty(land + "0 " + high + " 1;", 2, from + 7);
        String field = size + "field a ";
        Edge.on(field + x + " " + y + " 1;").due("field 0 0", x).due("field 0 1", y).due("field 0 3", 1);
        Edge.faulty(field + wide + " 0 1;", 2, from + 8);
        Edge.faulty(field + "0 " + high + " 1;", 2, from + 10);
        String mill = size + "mill a ";
        Edge.on(mill + x + " " + y + ";").due("mill 0 0", x).due("mill 0 1", y).due("mill 0 2", 1);
        Edge.faulty(mill + wide + " 0;", 2, from + 7);
        Edge.faulty(mill + "0 " + high + ";", 2, from + 9);
        Edge.on(size + "source " + x + ";").due("count 3", x).due("bed 0", x).due("bed 1", x - 1);
        Edge.faulty(size + "source " + wide + ";", 2, from + 7);
    }

    private static void lands() {
        Edge.by("Terms", "'land' X Y N (its HEIGHT: 0 to 9; each cell once; 5 without)");
        Edge.on("land 0 0 0;land 4 4 9;").due("height 0 0", 0).due("height 4 4", 9).due("height 0 1", 5).due("height 1 0", 5);
        Edge.faulty("land 0 0 10;", 2, 9);
        Edge.faulty("land 0 0 999;", 2, 9);
        Edge all = Edge.on(everything());
        for (int c = 0; c < 36; c++) {
            all.due("height " + c % 6 + " " + c / 6, c % 10);
        }
        Edge.by("Terms", "a cell told again for the same (at its Y)");
        for (int c = 0; c < 36; c++) {
            String cell = c % 6 + " " + c / 6;
            Edge.faulty("plain 6 6;land " + cell + " 1;land " + cell + " 10;", 3, 28);
            Edge.faulty("plain 6 6;field a " + cell + " 1;field b " + cell + " 21;", 3, 34);
        }
        Edge.reads("land 1 2 1;land 2 1 1;land 1 1 1;land 2 2 1;", 4);
        Edge.reads("land 1 2 1;field a 1 2 1;mill b 1 2;", 3);
    }

    private static void sources() {
        Edge.by("Terms", "'source' X (once; 0 without)");
        Edge.on("").due("count 3", 0).due("bed 0", 0);
        Edge.on("source 0;").due("count 3", 0).due("bed 0", 0);
        Edge.on("source 4;").due("count 3", 4).due("bed 0", 4);
        Edge.faulty("source 0;source 1;", 3, 9);
        Edge.faulty("source 1; source 5;", 3, 10);
    }

    private static void fields() {
        Edge.by("Terms", "'field' NAME X Y WORTH (1 to 20; one in a cell at most)");
        for (int worth = 1; worth <= 20; worth++) {
            Edge.on("field a 1 0 " + worth + ";").due("field 0 2", worth).due("side 1 2", worth);
        }
        Edge.faulty("field a 0 0 0;", 2, 12);
        Edge.faulty("field a 0 0 21;", 2, 12);
        Edge.faulty("field a 0 0 999;", 2, 12);
        Edge.faulty("field a 2 2 1;field b 2 2 1;", 3, 24);
        Edge.reads("field a 2 2 1;field b 2 3 1;field c 3 2 1;field d 3 3 1;", 4);
    }

    private static void mills() {
        Edge.by("Terms", "'mill' NAME X Y |");
        Edge.on("mill a 0 0;").due("count 5", 1).due("mill 0 0", 0).due("mill 0 1", 0).due("mill 0 2", 2);
        Edge.reads("mill a 2 2;mill b 2 2;mill c 2 2;", 3);
        Edge.reads("field a 2 2 1;mill b 2 2;", 2);
        Edge.faulty("mill a 0;", 1, 8);
        Edge.faulty("mill a 0 0 1;", 1, 11);
    }

    private static void purses() {
        Edge.by("Terms", "'purse' SIDE N (SIDE: 'left', 'right'; 0 to 99; each once; 9 without)");
        Edge.on("").due("side 0 0", 9).due("side 1 0", 9);
        Edge.on("purse left 0;").due("side 0 0", 0).due("side 1 0", 9);
        Edge.on("purse right 0;").due("side 0 0", 9).due("side 1 0", 0);
        Edge.on("purse right 99;purse left 98;").due("side 0 0", 98).due("side 1 0", 99);
        Edge.faulty("purse left 100;", 2, 11);
        Edge.faulty("purse right 100;", 2, 12);
        Edge.faulty("purse right 999;", 2, 12);
        for (String bad : new String[] {"1", "wet", "lef", "leftt", "ice", ";", "a"}) {
            Edge.faulty("purse " + bad + " 1;", 1, 6);
        }
        Edge.by("Terms", "'purse' of a SIDE told again (at it)");
        Edge.faulty("purse left 1;purse left 1;", 3, 19);
        Edge.faulty("purse right 1;purse left 1; purse right 100;", 3, 34);
        Edge.faulty("purse left 1;purse left", 3, 19);
    }

    private static void ice() {
        Edge.by("Terms", "'ice' N (0 to 5; once; 2 without)");
        for (int ice = 0; ice <= 5; ice++) {
            Edge.on("ice " + ice + ";").due("count 4", ice);
        }
        Edge.on("").due("count 4", 2);
        Edge.faulty("ice 6;", 2, 4);
        Edge.faulty("ice 999;", 2, 4);
        Edge.by("Terms", "what is told once told again");
        Edge.faulty("ice 1;ice 1;", 3, 6);
        Edge.faulty("ice 1; ice 6;", 3, 7);
        Edge.faulty("ice 1;ice", 3, 6);
        Edge.faulty("source 0;source 0;", 3, 9);
        Edge.faulty("plain 3 2;plain", 3, 10);
    }

    private static void names() {
        Edge.by("Terms", "NAME: a WORD, none of those told here, in a BOOK or a SENTENCE; told once");
        for (String told : TOLD) {
            Edge.faulty("field " + told + " 0 0 1;", 1, 6);
            Edge.faulty("mill " + told + " 0 0;", 1, 5);
            String less = told.substring(0, told.length() - 1);
            Edge.on("field " + less + " 0 0 1;mill " + told.charAt(0) + "z 0 0;").deed(0, less + " is wet at 0 0");
            if (told.length() < 7) {
                Edge.reads("field " + told + "s 0 0 1;mill s" + told + " 0 0;", 2);
            }
        }
        for (String bad : new String[] {"1", "=", ";", "(", "A", "a1"}) {
            Edge.faulty("field " + bad + " 0 0 1;", 1, 6);
            Edge.faulty("mill " + bad + " 0 0;", 1, 5);
        }
        Edge.reads("field is 0 0 1;field at 1 0 1;field line 2 0 1;field bank 3 0 1;field bed 4 0 1;", 5);
        Edge.by("Terms", "3 a NAME told twice, not told,");
        Edge.faulty("field a 0 0 1;field a 1 0 1;", 3, 20);
        Edge.faulty("mill a 0 0;mill a 1 0;", 3, 16);
        Edge.faulty("field a 0 0 1;mill a 1 0;", 3, 19);
        Edge.faulty("mill a 0 0;field a 1 0 1;", 3, 17);
        Edge.faulty("field abcdefg 0 0 1;mill b 0 0;field abcdefg", 3, 37);
        Edge.reads("field abcdefg 0 0 1;field abcdef 1 0 1;field bcdefg 2 0 1;field abcdefh 3 0 1;mill gfedcba 0 0;", 5);
        Edge.reads("field a 0 0 1;field aa 1 0 1;field aaa 2 0 1;field aaaaaaa 3 0 1;mill aaaaaa 0 0;", 5);
        // the last FIELD, the last MILL are known, too
        String ten = tenFields();
        Edge.faulty(ten + "mill j 0 0;", 3, ten.length() + 5);
        Edge.faulty("mill a 0 0;mill b 0 0;mill c 0 0;field c 0 0 1;", 3, 39);
        Edge.on(Hill.TEXT).fault("book 1", "other rolls 0 0;", 3, 0).fault("sentence", "same other", 3, 5);
    }

    private static String tenFields() {
        StringBuilder ten = new StringBuilder();
        for (int f = 0; f < 10; f++) {
            ten.append("field ").append((char) ('a' + f)).append(' ').append(f % 5).append(' ').append(f / 5).append(" 1;");
        }
        return ten.toString();
    }

    private static void sorts() {
        Edge.by("Terms", "10 FIELDS, 3 MILLS at most, numbered from 0 each; SIDES: 0 left, 1 right");
        String ten = tenFields();
        Edge e = Edge.on(ten).due("count 0", 10);
        for (int f = 0; f < 10; f++) {
            e.due("field " + f + " 0", f % 5).due("field " + f + " 1", f / 5);
        }
        e.refused("field 10 0", Edge.THROWS);
        Edge.on("").due("count 0", 0).due("count 5", 0).refused("field 0 0", Edge.THROWS).refused("mill 0 0", Edge.NONE);
        Edge mixed = Edge.on("mill x 1 0;field a 2 0 1;mill y 3 0;field b 4 0 2;mill z 0 1;purse left 3;purse right 4;");
        mixed.due("count 0", 2).due("count 5", 3).due("field 0 0", 2).due("field 1 0", 4);
        mixed.due("mill 0 0", 1).due("mill 1 0", 3).due("mill 2 1", 1).due("mill 3 0", -1);
        mixed.due("side 0 0", 3).due("side 1 0", 4);
        Edge.by("Terms", "4 one more than there may be of a sort,");
        Edge.faulty(ten + "field k 4 4 1;", 4, 140);
        Edge.faulty(ten + " field a 0 0 99;", 4, 141);
        Edge.faulty(ten + "field", 4, 140);
        Edge.faulty(ten + "mill k 0 0;mill l 0 0;mill m 0 0;field", 4, 173);
        String three = "mill a 0 0;mill b 0 0;mill c 0 0;";
        Edge.reads(three, 3);
        Edge.faulty(three + "mill d 0 0;", 4, 33);
        Edge.faulty(three + "\nmill a 9 9;", 4, 34);
        Edge.faulty(three + "mill", 4, 33);
    }

    private static void places() {
        Edge.by("Terms", "1 no TOKEN, or one that can't come (at it; the end: how many bytes there are;");
        String line = "field a 1 2 3;";
        // what ends in the middle of a LINE: the place is the end, with the blanks behind it
        for (int n : new int[] {5, 7, 9, 11, 13}) {
            Edge.faulty(line.substring(0, n), 1, n);
            Edge.faulty(line.substring(0, n) + " \n ", 1, n + 3);
        }
        String[] tokens = {"plain", "3", "2", ";"};
        String ahead = "";
        for (int i = 0; i < tokens.length; i++) {
            for (String bad : new String[] {"<", ")", "A", "1a", "wet"}) {
                Edge.faulty(ahead + bad, 1, ahead.length());
                Edge.faulty(ahead + " \n" + bad + " x", 1, ahead.length() + 2);
            }
            ahead += tokens[i] + " ";
        }
        Edge.faulty("ice 1;\u0000", 1, 6);
        Edge.faulty("\u00ff", 1, 0);
        Edge.by("Terms", "2 a NUMBER that is not as told (at it)");
        Edge.faulty("  land  0 \n 5", 2, 12);
        Edge.faulty("purse left  100", 2, 12);
        Edge.by("Terms", "FAULTS, the first along the text, of one TOKEN the least");
        Edge.faulty("ice 9;ice 1;x", 2, 4);
        Edge.faulty("ice 1;ice 9;x", 3, 6);
        Edge.faulty("x;ice 9;", 1, 0);
        Edge.faulty("land 5 5 10;", 2, 5);
        Edge.faulty("field a 0 0 1;field a 0 0 0;", 3, 20);
        Edge.faulty("field a 0 0 1;field b 0 0 0;", 3, 24);
        Edge.faulty("field a 0 0 1;field b 5 0 0;", 2, 22);
    }

    private static void readWhole() {
        Edge.by("Terms", "the most bytes told, if there are more and no FAULT is ahead: TOKENS that begin ahead of it are read whole");
        // 'ice' ends with the 900th byte, with the one behind it, begins with it, begins behind it
        for (int n = 897; n <= 901; n++) {
            Edge.faulty(" ".repeat(n) + "ice 1;", 1, 900);
        }
        Edge.faulty(" ".repeat(899) + "icx 1;", 1, 899);
        Edge.faulty(" ".repeat(900) + "icx 1;", 1, 900);
        // cut at 900 bytes these NUMBERS would be 1
        Edge.faulty(" ".repeat(895) + "ice 12;", 2, 899);
        Edge.faulty(" ".repeat(895) + "ice 1a;", 1, 899);
        Edge.faulty(" ".repeat(895) + "ice 1111;", 1, 899);
        Edge.faulty(" ".repeat(895) + "ice 001;", 1, 900);
        Edge.faulty(" ".repeat(896) + "ice 12;", 1, 900);
        Edge.faulty(" ".repeat(894) + "ice 1;;", 1, 900);
        Edge.faulty(" ".repeat(893) + "ice 1;;", 1, 899);
        Edge.faulty(" ".repeat(894) + "ice 7; ", 2, 898);
        Edge.faulty("ice 7;" + " ".repeat(934), 2, 4);
        Edge.faulty("ice 1;" + " ".repeat(934), 1, 900);
        // a FAULT of the end comes only where no byte is one too many
        Edge.faulty("ice" + " ".repeat(897), 1, 900);
        Edge.faulty("ice" + " ".repeat(898), 1, 900);
        Edge.faulty("ice" + " ".repeat(896), 1, 899);
    }

    private static void kinds() {
        Edge.by("Promise 5", "The kind of the FAULT of the latest plain(), book() or sentence() (a book() of -1000 leaves it);");
        Edge e = Edge.on(Hill.TEXT);
        e.text("plain", "x", -1).due("fault", 1).text("sentence", "left", 1).due("fault", 0);
        e.text("sentence", "same x", -6).due("fault", 3).text("book 0", "years 1;", -1).due("fault", 0);
        e.text("book 0", "years 31;", -8).due("fault", 2);
        for (String lives : new String[] {"-1", "2", "MIN", "MAX"}) {
            e.tape("years 31").refused("book " + lives, -1000).due("fault", 2);
        }
        e.tape(0, 9).due("ran", -1).due("fault", 2).due("dig 1 3 0", 0).due("undo", 0).due("fault", 2);
        e.due("image 0", 1).due("restore 0", 1).due("fault", 2);
        e.text("sentence", "not ".repeat(8) + "left", -33).due("fault", 4);
        e.text("plain", Hill.TEXT, 13).due("fault", 0);
        Edge.by("Promise 5", "0 without one and ahead of any");
        new Edge().due("fault", 0).due("book 2", -1000).due("fault", 0);
        new Edge().due("plain", 0).due("fault", 0).due("book 1", -1).due("fault", 0);
    }
}
