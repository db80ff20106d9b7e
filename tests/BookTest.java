/** Promises 37, 38 and 5: BOOKS, judged and lived. */
public final class BookTest {
    public static void main(String[] args) {
        faults();
        longest();
        judged();
        lived();
        reasons();
        over();
        Check.end("BookTest");
    }

    private static void faults() {
        BanksDealt b = Hill.make();
        Check.bookFault(b, "left", 1, 4);
        Check.bookFault(b, "left digs 1", 1, 11);
        Check.bookFault(b, "left digs 1 1", 1, 13);
        Check.bookFault(b, "left rolls 0 0;", 1, 5);
        Check.bookFault(b, "left oak 0 0;", 1, 5);
        Check.bookFault(b, "left 0 0;", 1, 5);
        Check.bookFault(b, "left digs left;", 1, 10);
        Check.bookFault(b, "left digs 0 0 0;", 1, 14);
        Check.bookFault(b, "grind digs 0 0;", 1, 6);
        Check.bookFault(b, "grind lays 0 0;", 1, 6);
        Check.bookFault(b, "grind;", 1, 5);
        Check.bookFault(b, "nobody rolls 0 0;", 3, 0);
        Check.bookFault(b, "bean rolls 0 0;", 3, 0);
        Check.bookFault(b, "nobodyelse rolls 0 0;", 1, 0);
        Check.bookFault(b, "plain 3 3;", 1, 0);
        Check.bookFault(b, "digs 0 0;", 1, 0);
        Check.bookFault(b, "7;", 1, 0);
        Check.bookFault(b, ";", 1, 0);
        Check.bookFault(b, "left digs 6 0;", 2, 10);
        Check.bookFault(b, "left lays 0 6;", 2, 12);
        Check.bookFault(b, "grind rolls 6 0;", 2, 12);
        Check.bookFault(b, "grind rolls 0 9;", 2, 14);
        Check.bookFault(b, "spring 1000;", 1, 7);
        Check.bookFault(b, "spring;", 1, 6);
        Check.bookFault(b, "years 0;", 2, 6);
        Check.bookFault(b, "years 31;", 2, 6);
        Check.bookFault(b, "years 1;spring 1 ;; ", 1, 18);
        Check.due("nothing was lived", b.now(0), 0);
        Check.due("told() ahead of any", b.told(0), -1);
        Check.bookFault(b, "left digs 0 0;left digs 0 6;", 2, 26);
        Check.due("a FAULT lives no LINE ahead of it", b.height(0, 0), 5);
        Check.due("undo()", b.undo(), -1);
    }

    private static void longest() {
        BanksDealt b = Hill.make();
        String forty = Check.repeat("years 1;", 40);
        Check.due("40 LINES", Check.book(b, 0, forty), -1);
        Check.due("all are ahead", b.told(1), 40);
        Check.bookFault(b, forty + "years 1;", 4, 320);
        Check.bookFault(b, forty + " grind", 4, 321);
        Check.bookFault(b, forty + "nobody", 3, 320);
        Check.bookFault(b, forty + "and", 1, 320);
        Check.bookFault(b, forty + ";", 1, 320);
        Check.due("400 bytes", Check.book(b, 0, Check.repeat(" ", 400)), -1);
        Check.bookFault(b, Check.repeat(" ", 401), 1, 400);
        Check.bookFault(b, Check.repeat(" ", 392) + "years 1; ", 1, 400);
        Check.bookFault(b, Check.repeat(" ", 392) + "years 31;", 2, 398);
        Check.bookFault(b, Check.repeat(" ", 393) + "years 123;", 2, 399);
        Check.due("told() of the latest without a FAULT", b.told(1), 0);
    }

    private static void judged() {
        BanksDealt b = Hill.make();
        String text = "spring 2; left digs 0 0; grind rolls 0 0; years 3; right lays 0 0; left lays 0 0;";
        Check.due("the WRONG one", Check.book(b, 0, text), 4);
        Check.due("fault()", b.fault(), 0);
        Check.due("why", b.told(0), 12);
        Check.due("LINES ahead", b.told(1), 4);
        Check.due("SPRINGS then", b.told(2), 4);
        Check.due("the left one's then", b.told(3), 1);
        Check.due("told(4)", b.told(4), -1);
        Check.due("told(-1)", b.told(-1), -1);
        Check.due("all stays", b.now(0), 0);
        Check.due("all stays", b.height(0, 0), 5);
        Check.due("all stays", b.mill(0, 1), 1);
        Check.due("all stays", b.side(0, 0), 2);
        Check.due("undo()", b.undo(), -1);
        Check.tape(b, Check.bytesOf("x"));
        Check.due("another lives", b.book(2), -1000);
        Check.due("told() stays", b.told(0), 12);
        Check.due("an empty BOOK", Check.book(b, 0, ""), -1);
        int[] none = {0, 0, 0, 1};
        for (int what = 0; what < 4; what++) {
            Check.due("told(" + what + ")", b.told(what), none[what]);
        }
        Check.bookFault(b, "x y;", 3, 0);
        Check.tape(b, Check.bytesOf("x"));
        Check.due("another lives", b.book(-5), -1000);
        Check.due("fault() stays", b.fault(), 3);
    }

    private static void lived() {
        BanksDealt b = Hill.make();
        Check.due("lived", Check.book(b, 1, "left digs 0 0;spring 2;grind rolls 0 2;right digs 0 0;spring 3;"), 3);
        Check.due("why", b.told(0), 2);
        Check.due("as far as it is not WRONG", b.now(0), 1);
        Check.due("BED", Hill.bed(b), 111);
        Check.due("HEIGHT", b.height(0, 0), 4);
        Check.due("MILL", b.mill(0, 1), 2);
        Check.due("works", b.side(0, 3), 1);
        Check.due("coin", b.side(0, 0), 1 + 2 + 2);
        Check.due("one act", b.undo(), 0);
        Check.due("SPRINGS", b.now(0), 0);
        Check.due("works", b.side(0, 3), 0);
        // YEARS have their number as seed, a SPRING its own
        BanksDealt c = Hill.make();
        c.years(3, 3);
        BanksDealt d = Hill.make();
        Check.due("lived", Check.book(d, 1, "years 3;"), -1);
        Check.due("SPRINGS", d.now(0), 3);
        for (int k = 1; k <= 3; k++) {
            Check.due("BEDS alike", d.ago(k, 2), c.ago(k, 2));
        }
        Check.due("BED alike", Hill.bed(d), Hill.bed(c));
        Check.due("BED of seed 3", Hill.bed(d), 110);
        BanksDealt e = Hill.make();
        Check.due("lived", Check.book(e, 1, "spring 2;spring 2;spring 3;"), -1);
        Check.due("each LINE its own seed", e.ago(1, 2), 1);
        Check.due("BED", Hill.bed(e), 110);
        Check.due("a WRONG first LINE", Check.book(e, 1, "left digs 5 5;"), 0);
        Check.due("undo() of the BOOK ahead", e.undo(), 0);
        Check.due("SPRINGS", e.now(0), 0);
    }

    private static void why(String text, int why) {
        BanksDealt b = Check.on(Hill.TEXT + "land 0 0 0;land 0 1 9;purse left 1;".replace("purse left 1;", ""));
        int line = 0;
        for (int i = 0; i < text.length() - 1; i++) {
            line += text.charAt(i) == ';' ? 1 : 0;
        }
        for (int lives = 0; lives < 2; lives++) {
            Check.due("book(" + lives + ") of " + text, Check.book(b, lives, text), why == 0 ? -1 : line);
            Check.due("told(0) of " + text, b.told(0), why);
        }
    }

    private static void reasons() {
        why("left digs 0 2;left lays 0 2;left digs 0 0;", 1);
        why("right digs 0 0;", 2);
        why("left digs 0 0;", 3);
        why("left digs 4 0;", 9);
        why("left digs 0 3;", 9);
        why("left digs 0 2;left lays 0 2;left lays 3 0;", 11);
        why("right lays 0 1;", 12);
        why("left lays 0 1;", 13);
        why("left lays 5 5;", 19);
        why("left digs 0 2;left lays 0 2;left lays 4 4;", 19);
        why("grind rolls 1 2;", 41);
        why("grind rolls 0 1;", 41);
        why("grind rolls 1 1;grind rolls 0 1;", 42);
        why("grind rolls 1 1;grind rolls 3 1;", 41);
        why("wheel rolls 4 2;", 49);
        why("wheel rolls 3 3;", 49);
    }

    private static void over() {
        BanksDealt b = Hill.make();
        for (int i = 0; i < 13; i++) {
            b.years(30, i);
        }
        Check.due("10 are left", Check.book(b, 0, "years 10;"), -1);
        Check.due("SPRINGS then", b.told(2), 400);
        Check.due("fewer are left", Check.book(b, 1, "years 11;"), 0);
        Check.due("why", b.told(0), 31);
        Check.due("none came", b.now(0), 390);
        Check.due("none is left", Check.book(b, 1, "years 9;spring 1;spring 1;"), 2);
        Check.due("why", b.told(0), 31);
        Check.due("SPRINGS", b.now(0), 400);
        Check.due("none is left", Check.book(b, 1, "years 1;"), 0);
    }
}
