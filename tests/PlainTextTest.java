/** Promises 4, 5 and 43: the text of a PLAIN and each of its FAULTS. */
public final class PlainTextTest {
    private static final String[] TOLD = {"plain", "land", "source", "field", "mill", "purse", "left", "right", "ice",
        "digs", "lays", "rolls", "spring", "years", "or", "and", "not", "wet", "near", "same", "above", "worth", "height",
        "changed", "number"};

    public static void main(String[] args) {
        rightOnes();
        noTokens();
        numbers();
        toldAgain();
        tooMany();
        tooLong();
        staysByFault();
        newPlain();
        Check.end("PlainTextTest");
    }

    private static void lines(String text, int lines) {
        BanksDealt b = new BanksDealt();
        Check.due("plain() of '" + text + "'", Check.plain(b, text), lines);
        Check.due("fault() of '" + text + "'", b.fault(), 0);
    }

    private static void rightOnes() {
        lines("", 0);
        lines(" \n ", 0);
        lines("ice 0;", 1);
        lines("ice\n5 ;", 1);
        lines("plain 3 2;source 2;", 2);
        lines("plain 6 6;land 5 5 9;source 5;", 3);
        lines("plain 006 006;land 005 5 009;", 2);
        lines("ice 1;purse left 0;purse right 99;plain 3 3;", 4);
        lines("field a 0 0 1;mill b 0 0;mill c 0 0;land 0 0 3;", 4);
        lines("field is 0 0 1;field at 1 0 20;field abcdefg 2 0 3;", 3);
        lines("land 1 0 1;land 0 1 1;", 2);
        BanksDealt b = Hill.make();
        int[] counts = {4, 4, 3, 1, 5, 2, 0};
        for (int what = 0; what < counts.length; what++) {
            Check.due("count(" + what + ")", b.count(what), counts[what]);
        }
        Check.due("LINES of the hill", Check.plain(b, Hill.TEXT), 13);
        BanksDealt c = Check.on("plain 3 6;");
        Check.due("HEIGHT without land", c.height(2, 5), 5);
        Check.due("the source without", c.count(3), 0);
        Check.due("ice without", c.count(4), 2);
        Check.due("purse without", c.side(0, 0), 9);
    }

    private static void noTokens() {
        Check.plainFault("x", 1, 0);
        Check.plainFault(" left 1;", 1, 1);
        Check.plainFault(";", 1, 0);
        Check.plainFault("3", 1, 0);
        Check.plainFault("ice 1;;", 1, 6);
        Check.plainFault("ice 1 1;", 1, 6);
        Check.plainFault("ice = 1;", 1, 4);
        Check.plainFault("ice one;", 1, 4);
        Check.plainFault("ice;", 1, 3);
        Check.plainFault("ice 1", 1, 5);
        Check.plainFault("ice 1  ", 1, 7);
        Check.plainFault("ice", 1, 3);
        Check.plainFault("Ice 1;", 1, 0);
        Check.plainFault("ice 1.", 1, 5);
        Check.plainFault("ice\t1;", 1, 3);
        Check.plainFault("ice 1;\r\n", 1, 6);
        Check.plainFault("ice -1;", 1, 4);
        Check.plainFault("ice1;", 1, 0);
        Check.plainFault("ice 1a;", 1, 4);
        Check.plainFault("ice 0001;", 1, 4);
        Check.plainFault("icecream 1;", 1, 0);
        Check.plainFault("icecreamicecream 1;", 1, 0);
        Check.plainFault("ice 1;\u00e9", 1, 6);
        Check.plainFault("ice 1;\u0000", 1, 6);
        Check.plainFault("plain 4 3", 1, 9);
        Check.plainFault("purse up 1;", 1, 6);
        Check.plainFault("purse 1;", 1, 6);
        Check.plainFault("purse ice 1;", 1, 6);
        Check.plainFault("field 3 0 0 1;", 1, 6);
        Check.plainFault("field abcdefgh 0 0 1;", 1, 6);
        Check.plainFault("mill a 0;", 1, 8);
        Check.plainFault("mill a 0 0 1;", 1, 11);
        for (String told : TOLD) {
            Check.plainFault("field " + told + " 0 0 1;", 1, 6);
            Check.plainFault("mill " + told + " 0 0;", 1, 5);
        }
    }

    private static void numbers() {
        Check.plainFault("plain 2 3;", 2, 6);
        Check.plainFault("plain 7 3;", 2, 6);
        Check.plainFault("plain 3 1;", 2, 8);
        Check.plainFault("plain 3 7;", 2, 8);
        Check.plainFault("land 5 0 0;", 2, 5);
        Check.plainFault("land 0 5 0;", 2, 7);
        Check.plainFault("plain 3 2;land 3 0 0;", 2, 15);
        Check.plainFault("plain 3 2;land 0 2 0;", 2, 17);
        Check.plainFault("land 0 0 10;", 2, 9);
        Check.plainFault("source 5;", 2, 7);
        Check.plainFault("plain 3 3;source 3;", 2, 17);
        Check.plainFault("ice 6;", 2, 4);
        Check.plainFault("ice 999;", 2, 4);
        Check.plainFault("purse left 100;", 2, 11);
        Check.plainFault("field a 5 0 1;", 2, 8);
        Check.plainFault("field a 0 5 1;", 2, 10);
        Check.plainFault("field a 0 0 0;", 2, 12);
        Check.plainFault("field a 0 0 21;", 2, 12);
        Check.plainFault("mill a 5 0;", 2, 7);
        Check.plainFault("mill a 0 5;", 2, 9);
    }

    private static void toldAgain() {
        Check.plainFault("plain 3 3;plain 3 3;", 3, 10);
        Check.plainFault("land 0 0 5;plain 3 3;", 3, 11);
        Check.plainFault("field a 0 0 1;plain 3 3;", 3, 14);
        Check.plainFault("mill a 0 0;plain 3 3;", 3, 11);
        Check.plainFault("source 0;plain 3 3;", 3, 9);
        Check.plainFault("source 0;source 0;", 3, 9);
        Check.plainFault("ice 1;ice x;", 3, 6);
        Check.plainFault("land 0 0 1;land 0 0 10;", 3, 18);
        Check.plainFault("land 4 4 1;land 4 4 1;", 3, 18);
        Check.plainFault("purse left 1;purse left 2;", 3, 19);
        Check.plainFault("purse right 1;purse right 200;", 3, 20);
        Check.plainFault("field a 0 0 1;field a 9 9 1;", 3, 20);
        Check.plainFault("mill a 0 0;field a 0 0 1;", 3, 17);
        Check.plainFault("field a 0 0 1;mill a 0 0;", 3, 19);
        Check.plainFault("mill a 0 0;mill a 0 0;", 3, 16);
        Check.plainFault("field a 0 0 1;field b 0 0 99;", 3, 24);
    }

    private static void tooMany() {
        StringBuilder ten = new StringBuilder();
        for (int i = 0; i < 10; i++) {
            ten.append("field ").append((char) ('a' + i)).append(' ').append(i % 5).append(' ').append(i / 5).append(" 1;");
        }
        lines(ten.toString(), 10);
        Check.plainFault(ten + "field", 4, ten.length());
        Check.plainFault(ten + "field k 4 4 1;", 4, ten.length());
        String three = "mill a 0 0;mill b 0 0;mill c 0 0;";
        lines(three, 3);
        Check.plainFault(three + " mill d 0 0;", 4, three.length() + 1);
    }

    private static void tooLong() {
        lines("ice 1;" + Check.repeat(" ", 894), 1);
        Check.plainFault("ice 1;" + Check.repeat(" ", 895), 1, 900);
        Check.plainFault(Check.repeat(" ", 940), 1, 900);
        Check.plainFault(Check.repeat(" ", 895) + "ice 1;", 1, 900);
        Check.plainFault(Check.repeat(" ", 894) + "ice 1; ", 1, 900);
        lines(Check.repeat(" ", 894) + "ice 1;", 1);
        // a TOKEN that begins ahead of the 900th byte is read whole
        Check.plainFault(Check.repeat(" ", 897) + "icey 1;", 1, 897);
        Check.plainFault(Check.repeat(" ", 895) + "ice 12;", 2, 899);
        Check.plainFault(Check.repeat(" ", 895) + "ice 1 ;", 1, 900);
        Check.plainFault(Check.repeat(" ", 896) + "ice 7;", 1, 900);
        Check.plainFault(Check.repeat(" ", 893) + "ice 7 ; ", 2, 897);
        Check.plainFault("ice 7;" + Check.repeat(" ", 900), 2, 4);
        // the end comes ahead of the most bytes
        Check.plainFault("ice" + Check.repeat(" ", 897), 1, 900);
        Check.plainFault("ice" + Check.repeat(" ", 896), 1, 899);
    }

    private static void staysByFault() {
        BanksDealt b = Hill.make();
        b.dig(1, 2, 2);
        Check.sentence(b, "left");
        Check.due("plain() with a FAULT", Check.plain(b, "plain 6 6;land 0 0 0;ice 9;"), -1 - 25 + 0);
        Check.due("WIDE then", b.count(1), 4);
        Check.due("FIELDS then", b.count(0), 4);
        Check.due("HEIGHT then", b.height(2, 2), 2);
        Check.due("SENTENCE then", b.said(-1), 1);
        Check.due("undo() then", b.undo(), 0);
        Check.due("fault()", b.fault(), 2);
        Check.plain(b, "");
        Check.due("fault() without one", b.fault(), 0);
    }

    private static void newPlain() {
        BanksDealt b = Check.on(Hill.SHORE);
        b.duel(0);
        b.deed(0);
        b.pushed(1, 1);
        b.tempted(2, 1, 1);
        Check.tape(b, 2, 2);
        b.ran();
        Check.book(b, 1, "left digs 0 0;spring 2;");
        Check.sentence(b, "left");
        b.image(1);
        Check.due("plain()", Check.plain(b, "plain 3 2;"), 1);
        Check.due("SPRINGS", b.now(0), 0);
        Check.due("changes", b.now(4), 0);
        Check.due("HEIGHT", b.height(0, 0), 5);
        Check.due("coin", b.side(0, 0), 9);
        Check.due("works", b.side(0, 3), 0);
        Check.due("said(-1)", b.said(-1), -1);
        Check.due("undo()", b.undo(), -1);
        Check.due("ago(1, 0)", b.ago(1, 0), -1);
        Check.due("FIELDS", b.count(0), 0);
        Check.due("MILLS", b.count(5), 0);
        // what other calls told last stays
        Check.due("duelAt(0)", b.duelAt(0), 14);
        Check.due("byteAt(0)", b.byteAt(0), 'b');
        Check.due("pushedAt(0)", b.pushedAt(0), 50);
        Check.due("temptedAt(0)", b.temptedAt(0), 14);
        Check.due("ranAt(2)", b.ranAt(2), 2);
        Check.due("sure(2)", b.sure(2), 2);
        Check.due("told(1)", b.told(1), 2);
        Check.due("restore(1)", b.restore(1), true);
        Check.due("FIELDS", b.count(0), 4);
    }
}
