/** Promises 1, 2, 3 and what empties the tape. */
public final class TapeTest {
    public static void main(String[] args) {
        newObject();
        feeding();
        cutting();
        emptied();
        Check.end("TapeTest");
    }

    private static void newObject() {
        BanksDealt b = new BanksDealt();
        int[] counts = {0, 5, 5, 0, 2, 0, 0};
        for (int what = 0; what < counts.length; what++) {
            Check.due("count(" + what + ") of a new object", b.count(what), counts[what]);
        }
        Check.due("count(-1)", b.count(-1), -1);
        Check.due("count(7)", b.count(7), -1);
        Check.due("bed of a new object", Hill.bed(b), 0);
        for (int y = 0; y < 5; y++) {
            for (int x = 0; x < 5; x++) {
                Check.due("height", b.height(x, y), 5);
                Check.due("bank", b.bank(x, y), x == 0 ? 2 : 1);
            }
        }
        Check.due("coin of the left one", b.side(0, 0), 9);
        Check.due("coin of the right one", b.side(1, 0), 9);
        Check.due("fault()", b.fault(), 0);
        Check.due("undo()", b.undo(), -1);
        Check.due("said(-1)", b.said(-1), -1);
        for (int k = -1; k < 3; k++) {
            Check.due("told", b.told(k), -1);
            Check.due("temptedAt", b.temptedAt(k), -1);
            Check.due("duelAt", b.duelAt(k), -1);
            Check.due("pushedAt", b.pushedAt(k), -1);
            Check.due("ranAt", b.ranAt(k), -1);
            Check.due("sure", b.sure(k), -1);
            Check.due("byteAt", b.byteAt(k), -1);
            Check.due("restore", b.restore(k), false);
        }
        Check.due("NONE", BanksDealt.NONE, -1);
    }

    private static void feeding() {
        BanksDealt b = new BanksDealt();
        for (int i = 1; i <= 47; i++) {
            Check.due("feed number " + i, b.feed(0, 0, 0, 0, 0), 20 * i);
        }
        Check.due("a feed too many", b.feed(0, 0, 0, 0, 0), -1);
        Check.due("bytes then", b.count(6), 940);
        Check.due("end(921)", b.end(921), true);
        Check.due("a feed up to 941", b.feed(0, 0, 0, 0, 0), -1);
        Check.due("bytes then", b.count(6), 921);
        Check.due("end(920)", b.end(920), true);
        Check.due("a feed up to 940", b.feed(0, 0, 0, 0, 0), 940);
        // "ice 3;" by numbers with a sign, and bytes above 127 behind it
        BanksDealt c = new BanksDealt();
        c.feed(0x69636520, 0x333b80ff, -1, 0, 0);
        Check.due("end(6)", c.end(6), true);
        Check.due("plain()", c.plain(), 1);
        Check.due("ice", c.count(4), 3);
        // the order of the five numbers: "field a 1 2 13;     "
        c.feed(0x6669656c, 0x64206120, 0x31203220, 0x31333b20, 0x20202020);
        Check.due("plain()", c.plain(), 1);
        Check.due("X", c.field(0, 0), 1);
        Check.due("Y", c.field(0, 1), 2);
        Check.due("WORTH", c.field(0, 2), 13);
    }

    private static void cutting() {
        BanksDealt b = new BanksDealt();
        Check.due("end(0) of none", b.end(0), true);
        Check.due("end(1) of none", b.end(1), false);
        b.feed(1, 2, 3, 4, 5);
        Check.due("end(21)", b.end(21), false);
        Check.due("end(-1)", b.end(-1), false);
        Check.due("end(least)", b.end(Integer.MIN_VALUE), false);
        Check.due("bytes then", b.count(6), 20);
        Check.due("end(20)", b.end(20), true);
        Check.due("end(7)", b.end(7), true);
        Check.due("bytes then", b.count(6), 7);
        Check.due("end(8)", b.end(8), false);
        Check.due("feed behind 7", b.feed(0, 0, 0, 0, 0), 27);
    }

    private static void emptied() {
        BanksDealt b = Hill.make();
        Check.due("tape behind plain()", b.count(6), 0);
        Check.tape(b, 0, 0);
        b.book(2);
        Check.due("tape behind book(2)", b.count(6), 2);
        b.book(-1);
        Check.due("tape behind book(-1)", b.count(6), 2);
        b.image(0);
        b.restore(0);
        Check.due("tape behind restore()", b.count(6), 2);
        b.ran();
        Check.due("tape behind ran()", b.count(6), 0);
        Check.tape(b, 0, 9);
        Check.due("ran() that is not as told", b.ran(), -1);
        Check.due("tape behind it", b.count(6), 0);
        Check.sentence(b, "left");
        Check.due("tape behind sentence()", b.count(6), 0);
        Check.book(b, 0, "years 1;");
        Check.due("tape behind book(0)", b.count(6), 0);
    }
}
