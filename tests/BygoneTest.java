/** Promises 30 to 32: which beds there may have been. */
public final class BygoneTest {
    public static void main(String[] args) {
        counts();
        firsts();
        wrongTapes();
        stays();
        Check.end("BygoneTest");
    }

    private static int ran(BanksDealt b, int... pairs) {
        Check.tape(b, pairs);
        return b.ran();
    }

    private static void counts() {
        BanksDealt b = Hill.make();
        // beds of 4 by 3 by their first X: 5, 8, 8, 5
        Check.due("bean: the bed is behind X 0", ran(b, 0, 0), 21);
        Check.due("bean is wet: from 0 alone", ran(b, 0, 2), 2 + 3);
        Check.due("bean: no cell is ahead of X 0", ran(b, 0, 1), 0);
        Check.due("pea is wet: it ends in 2", ran(b, 2, 2), 8);
        Check.due("pea is wet, told twice", ran(b, 2, 2, 2, 2), 8);
        Check.due("pea is wet and not", ran(b, 2, 2, 2, 1), 0);
        Check.due("bean left and oats right", ran(b, 0, 0, 1, 1), 8 + 8);
        Check.due("ten pairs", ran(b, 0, 0, 1, 1, 2, 2, 0, 0, 1, 1, 2, 2, 0, 0, 1, 1, 2, 2, 0, 0), 5);
        // where the SOURCE is does not count
        BanksDealt c = Check.on("plain 6 6;source 5;field a 0 0 1;field z 5 5 1;");
        Check.due("a is wet", ran(c, 0, 2), 96);
        Check.due("a and z are wet", ran(c, 0, 2, 1, 2), 1);
        Check.due("a is left, z is not wet", ran(c, 0, 0, 1, 1) > 600, true);
    }

    private static void firsts() {
        BanksDealt b = Hill.make();
        ran(b, 2, 2);
        int[] first = {0, 1, 2};
        int[] sure = {-1, -1, 2};
        for (int y = 0; y < 3; y++) {
            Check.due("ranAt(" + y + ")", b.ranAt(y), first[y]);
            Check.due("sure(" + y + ")", b.sure(y), sure[y]);
        }
        Check.due("ranAt(3)", b.ranAt(3), -1);
        Check.due("ranAt(-1)", b.ranAt(-1), -1);
        Check.due("sure(3)", b.sure(3), -1);
        Check.due("sure(-1)", b.sure(-1), -1);
        BanksDealt c = Check.on("plain 6 6;source 5;field a 0 0 1;field z 5 5 1;field m 3 2 1;");
        ran(c, 0, 2, 1, 2);
        for (int y = 0; y < 6; y++) {
            Check.due("the only one", c.ranAt(y), y);
            Check.due("the only one is sure", c.sure(y), y);
        }
        // sure of a row between two that are known, not of those that may turn
        ran(c, 0, 2, 2, 1);
        Check.due("first of them", c.ranAt(2), 0);
        Check.due("sure of row 0", c.sure(0), 0);
        Check.due("not of row 1", c.sure(1), -1);
        // z wet in the last row: the row ahead is 4 or 5; the first turns as late as it can
        ran(c, 1, 2);
        int[] late = {0, 1, 2, 3, 4, 5};
        for (int y = 0; y < 6; y++) {
            Check.due("ranAt(" + y + ")", c.ranAt(y), late[y]);
        }
        // a cell that has a way on but is reached from nowhere is not among them
        BanksDealt d = Check.on("plain 6 2;field a 0 0 1;field b 5 1 1;field c 1 1 1;");
        Check.due("a wet, c left or wet", ran(d, 0, 2, 2, 2), 1);
        Check.due("sure of row 1", d.sure(1), 1);
        Check.due("a wet, b on the right", ran(d, 0, 2, 1, 1), 2);
        Check.due("not sure of row 1", d.sure(1), -1);
    }

    private static void wrongTapes() {
        BanksDealt b = Hill.make();
        ran(b, 2, 2);
        Check.due("an empty tape", ran(b), -1);
        Check.due("one byte", ran(b, 0), -1);
        Check.due("three bytes", ran(b, 0, 0, 1), -1);
        Check.due("11 pairs", ran(b, 0, 0, 0, 0, 0, 0, 0, 0, 0, 0, 0, 0, 0, 0, 0, 0, 0, 0, 0, 0, 0, 0), -1);
        Check.due("no such FIELD", ran(b, 4, 0), -1);
        Check.due("no such FIELD, a byte above 127", ran(b, 255, 0), -1);
        Check.due("no such bank", ran(b, 0, 3), -1);
        Check.due("no such bank, a byte above 127", ran(b, 0, 200), -1);
        Check.due("a right pair behind 0 of them", ran(b, 0, 1, 9, 0), -1);
        Check.due("without FIELDS", ran(new BanksDealt(), 0, 0), -1);
        Check.due("the latest above 0", b.ranAt(2), 2);
        Check.due("fault() is not of ran()", b.fault(), 0);
    }

    private static void stays() {
        BanksDealt b = Hill.make();
        ran(b, 2, 2);
        Check.due("none", ran(b, 0, 1), 0);
        Check.due("the latest above 0", b.ranAt(2), 2);
        Check.due("sure by the latest above 0", b.sure(2), 2);
        b.spring(2);
        Check.plain(b, "plain 6 6;");
        Check.due("behind another PLAIN", b.ranAt(2), 2);
        Check.due("no such row", b.ranAt(3), -1);
    }
}
