/** Promises 41 and 42: images. */
public final class ImageTest {
    public static void main(String[] args) {
        places();
        all();
        sentences();
        anotherPlain();
        Check.end("ImageTest");
    }

    private static void places() {
        BanksDealt b = Hill.make();
        for (int k : new int[] {-1, 2, Integer.MAX_VALUE, Integer.MIN_VALUE}) {
            Check.due("image(" + k + ")", b.image(k), false);
            Check.due("restore(" + k + ")", b.restore(k), false);
        }
        Check.due("nothing is kept", b.restore(0), false);
        Check.due("image(1)", b.image(1), true);
        Check.due("nothing is kept in 0", b.restore(0), false);
        b.dig(1, 3, 0);
        Check.due("image(0)", b.image(0), true);
        Check.due("restore(1)", b.restore(1), true);
        Check.due("HEIGHT", b.height(3, 0), 5);
        Check.due("restore(0)", b.restore(0), true);
        Check.due("HEIGHT", b.height(3, 0), 4);
        b.dig(1, 3, 0);
        Check.due("restore(0) again", b.restore(0), true);
        Check.due("HEIGHT", b.height(3, 0), 4);
        b.dig(1, 3, 0);
        b.image(0);
        b.restore(1);
        b.restore(0);
        Check.due("the latest in its place", b.height(3, 0), 3);
    }

    private static void all() {
        BanksDealt b = Hill.make();
        b.years(4, 2);
        b.dig(0, 0, 0);
        b.roll(0, 0, 0);
        Check.sentence(b, "wet");
        b.image(0);
        b.spring(3);
        b.lay(0, 0, 1);
        b.roll(0, 0, 1);
        Check.sentence(b, "left or right");
        Check.sentence(b, "left and");
        Check.due("duel", b.duel(0) < 0, true);
        Check.tape(b, 1, 2, 3);
        Check.due("restore(0)", b.restore(0), true);
        Check.due("undo()", b.undo(), -1);
        Check.due("the tape stays", b.count(6), 3);
        Check.due("fault() stays", b.fault(), 1);
        Check.due("duelAt() stays", b.duelAt(0) != -1, true);
        Check.due("SPRINGS", b.now(0), 4);
        Check.due("BED", Hill.bed(b), 112);
        Check.due("BED ago", b.ago(1, 1), 2);
        Check.due("BED ago", b.ago(4, 2), 2);
        Check.due("CHANGED", b.now(4), 2);
        Check.due("coin", b.side(0, 0), 17);
        Check.due("works", b.side(0, 3), 1);
        Check.due("HEIGHT", b.height(0, 0), 4);
        Check.due("HEIGHT", b.height(0, 1), 5);
        Check.due("MILL", b.mill(0, 1), 0);
        Check.due("rolled", b.mill(0, 3), 1);
        Check.due("SENTENCE", b.said(-1), 1);
        Check.due("SENTENCE", b.said(0), 2);
    }

    private static void sentences() {
        BanksDealt b = Hill.make();
        Check.sentence(b, "same oats or worth>7");
        b.image(0);
        Check.sentence(b, "same bean or worth>7");
        b.image(1);
        Check.sentence(b, "same bean or worth<9");
        b.restore(0);
        Check.due("same oats, worth>7", b.said(-1), 3);
        Check.due("bean", b.said(0), 0);
        b.restore(1);
        Check.due("same bean, worth>7", b.said(-1), 1);
        Check.sentence(b, "not (left or right)");
        b.restore(0);
        Check.due("same oats, worth>7", b.said(2), 3);
    }

    private static void anotherPlain() {
        BanksDealt b = Hill.make();
        b.image(1);
        Check.sentence(b, "same bean");
        b.image(0);
        Check.due("plain()", Check.plain(b, "plain 6 6;source 5;ice 1;field oak 5 5 20;mill bean 1 1;"), 5);
        Check.sentence(b, "same oak");
        Check.due("restore(0)", b.restore(0), true);
        int[] counts = {4, 4, 3, 1, 5, 2};
        for (int what = 0; what < counts.length; what++) {
            Check.due("count(" + what + ")", b.count(what), counts[what]);
        }
        Check.dueText("names", Check.deedOf(b, 1), "oats is right at 3 0");
        Check.due("SENTENCE", b.said(0), 0);
        Check.due("a new SENTENCE by the names that are kept", Check.sentence(b, "same rye"), 1);
        Check.due("a BOOK by the names that are kept", Check.book(b, 0, "grind rolls 0 0;"), -1);
        b.restore(1);
        Check.due("none was told then", b.said(-1), -1);
    }
}
