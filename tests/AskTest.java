/** Promises 6 to 12, 34 to 36: what is so. */
public final class AskTest {
    public static void main(String[] args) {
        fields();
        mills();
        cells();
        leastBeds();
        sides();
        nows();
        richest();
        deeds();
        Check.end("AskTest");
    }

    private static void fields() {
        BanksDealt b = Hill.make();
        int[][] due = {{0, 0, 8, 0, 0}, {3, 0, 6, 1, 0}, {2, 2, 4, 2, 0}, {3, 1, 5, 1, 0}};
        for (int f = 0; f < 4; f++) {
            for (int what = 0; what < 5; what++) {
                Check.due("field(" + f + ", " + what + ")", b.field(f, what), due[f][what]);
            }
        }
        Check.throwsNone("field(4, 0)", Check.fieldThrows(b, 4, 0));
        Check.throwsNone("field(-1, 0)", Check.fieldThrows(b, -1, 0));
        Check.throwsNone("field(0, 5)", Check.fieldThrows(b, 0, 5));
        Check.throwsNone("field(0, -1)", Check.fieldThrows(b, 0, -1));
        Check.throwsNone("field(10, 0)", Check.fieldThrows(b, 10, 0));
        Check.throwsNone("field(most, 0)", Check.fieldThrows(b, Integer.MAX_VALUE, 0));
        b.spring(2);
        Check.due("pea is the right one's then", b.field(2, 3), 1);
        Check.due("pea CHANGED", b.field(2, 4), 1);
        b.spring(2);
        Check.due("pea CHANGED not again", b.field(2, 4), 1);
    }

    private static void mills() {
        BanksDealt b = Check.on(Hill.TEXT + "mill wet 0 0;".replace("wet", "inbed").replace("0 0", "1 1"));
        int[][] due = {{0, 1, 0, 0}, {3, 2, 1, 0}, {1, 1, 2, 0}};
        for (int m = 0; m < 3; m++) {
            for (int what = 0; what < 4; what++) {
                Check.due("mill(" + m + ", " + what + ")", b.mill(m, what), due[m][what]);
            }
            Check.due("mill(" + m + ", 4)", b.mill(m, 4), -1);
            Check.due("mill(" + m + ", -1)", b.mill(m, -1), -1);
        }
        Check.due("mill(3, 0)", b.mill(3, 0), -1);
        Check.due("mill(-1, 0)", b.mill(-1, 0), -1);
        b.roll(0, 0, 0);
        b.roll(0, 0, 1);
        Check.due("how often it rolled", b.mill(0, 3), 2);
    }

    private static void cells() {
        BanksDealt b = Hill.make();
        int[] heights = {5, 5, 5, 5, 5, 1, 5, 5, 5, 5, 3, 5};
        int[] banks = {0, 2, 1, 1, 0, 2, 1, 1, 0, 0, 2, 1};
        for (int i = 0; i < 12; i++) {
            Check.due("height", b.height(i % 4, i / 4), heights[i]);
            Check.due("bank", b.bank(i % 4, i / 4), banks[i]);
        }
        int[][] none = {{-1, 0}, {0, -1}, {4, 0}, {0, 3}, {Integer.MAX_VALUE, Integer.MIN_VALUE}};
        for (int[] c : none) {
            Check.due("height of no cell", b.height(c[0], c[1]), -1);
            Check.due("bank of no cell", b.bank(c[0], c[1]), -1);
        }
        Check.due("bed", Hill.bed(b), 112);
        Check.due("bed(3)", b.bed(3), -1);
        Check.due("bed(-1)", b.bed(-1), -1);
        Check.due("bed(6)", b.bed(6), -1);
    }

    private static void leastBeds() {
        // of like ones row by row the least X
        Check.due("flat", Hill.bed(Check.on("plain 6 6;source 5;")), 543210);
        Check.due("from the middle", Hill.bed(Check.on("plain 3 4;source 2;")), 2100);
        // the least in all, not step by step: the row ahead leads to 0 first
        String deep = "plain 5 3;source 2;land 1 1 4;land 3 1 5;land 4 2 0;";
        Check.due("the least in all", Hill.bed(Check.on(deep)), 234);
        // a wall that it can't go round, and the way of the least X among like sums
        Check.due("like sums", Hill.bed(Check.on("plain 3 3;source 1;land 0 1 6;land 0 2 4;")), 110);
        Check.due("like sums, the first row that differs", Hill.bed(Check.on("plain 3 3;source 1;land 0 1 6;land 2 2 3;")), 112);
        Check.due("the source of the first row counts not", Hill.bed(Check.on("plain 3 2;source 2;land 2 0 9;land 0 0 0;")), 21);
    }

    private static void sides() {
        BanksDealt b = Hill.make();
        int[][] due = {{2, 1, 8, 0}, {9, 10, 11, 0}};
        for (int s = 0; s < 2; s++) {
            for (int what = 0; what < 4; what++) {
                Check.due("side(" + s + ", " + what + ")", b.side(s, what), due[s][what]);
            }
            Check.due("side(" + s + ", 4)", b.side(s, 4), -1);
            Check.due("side(" + s + ", -1)", b.side(s, -1), -1);
        }
        Check.due("side(2, 0)", b.side(2, 0), -1);
        Check.due("side(-1, 0)", b.side(-1, 0), -1);
        b.dig(0, 0, 0);
        b.lay(0, 0, 0);
        Check.due("coin behind two works", b.side(0, 0), 0);
        Check.due("works", b.side(0, 3), 2);
        Check.due("why no third", b.dig(0, 0, 0), 1);
        Check.due("works then", b.side(0, 3), 2);
    }

    private static void nows() {
        BanksDealt b = Hill.make();
        int[] due = {0, 4, 9, 1, 0};
        for (int what = 0; what < 5; what++) {
            Check.due("now(" + what + ")", b.now(what), due[what]);
        }
        Check.due("now(5)", b.now(5), -1);
        Check.due("now(-1)", b.now(-1), -1);
        b.lay(0, 1, 1);
        Check.due("HEIGHTS of the BED with a stone", b.now(2), 10);
        b.years(4, 2);
        int[] then = {4, 4, 10, 1, 2};
        for (int what = 0; what < 5; what++) {
            Check.due("now(" + what + ") behind 4 YEARS", b.now(what), then[what]);
        }
        Check.due("bends of a winding bed", Check.on("plain 6 6;source 5;").now(3), 5);
        Check.due("bends of a straight bed", new BanksDealt().now(3), 0);
    }

    private static void richest() {
        BanksDealt b = Hill.make();
        Check.due("richest(0)", b.richest(0), 0);
        Check.due("richest(1)", b.richest(1), 1);
        Check.due("richest(2)", b.richest(2), -1);
        Check.due("richest(-1)", b.richest(-1), -1);
        BanksDealt c = Check.on("source 0;field a 1 1 4;field b 2 1 7;field c 3 1 7;field d 0 0 20;");
        Check.due("of like ones the first", c.richest(1), 1);
        Check.due("it has none", c.richest(0), -1);
        Check.due("the least WORTH", Check.on("field a 1 1 1;").richest(1), 0);
    }

    private static void deeds() {
        BanksDealt b = Hill.make();
        Check.dueText("bean", Check.deedOf(b, 0), "bean is left at 0 0");
        Check.dueText("oats", Check.deedOf(b, 1), "oats is right at 3 0");
        Check.dueText("pea", Check.deedOf(b, 2), "pea is wet at 2 2");
        Check.due("deed(4)", b.deed(4), -1);
        Check.due("deed(-1)", b.deed(-1), -1);
        Check.due("the latest DEED stays", b.byteAt(0), 'p');
        Check.due("byteAt(-1)", b.byteAt(-1), -1);
        Check.due("byteAt(most)", b.byteAt(Integer.MAX_VALUE), -1);
        Check.due("how many bytes", b.deed(3), 19);
        BanksDealt c = Check.on("plain 6 6;field zzzzzzz 5 5 1;field a 0 5 1;field azbycxd 4 5 1;");
        Check.dueText("the longest", Check.deedOf(c, 0), "zzzzzzz is right at 5 5");
        Check.dueText("the shortest", Check.deedOf(c, 1), "a is wet at 0 5");
        Check.dueText("letters in their order", Check.deedOf(c, 2), "azbycxd is right at 4 5");
        b.spring(2);
        Check.due("the DEED stays as it was told", b.byteAt(0), 'r');
    }
}
