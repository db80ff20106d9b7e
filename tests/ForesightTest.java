import java.util.ArrayList;
import java.util.List;

/** Promises 19 to 27, 29 and 33: what would be. */
public final class ForesightTest {
    public static void main(String[] args) {
        would();
        tempted();
        temptedByMore();
        duel();
        duelByCoin();
        duelAgainst();
        pushed();
        pushedByMore();
        highest();
        shares();
        odds();
        whenSpringsAreOver();
        nothingChanges();
        Check.end("ForesightTest");
    }

    private static void would() {
        BanksDealt b = Hill.make();
        Check.due("would()", b.would(), 9);
        // 1 1 2 is 10 with a stone on 2 2, 1 1 1 is 11
        b.lay(1, 2, 2);
        Check.due("would()", b.would(), 10);
        Check.due("wouldAt(2)", b.wouldAt(2), 2);
        // both 11: the least X
        b.lay(1, 2, 2);
        Check.due("would()", b.would(), 11);
        int[] at = {1, 1, 0};
        for (int y = 0; y < 3; y++) {
            Check.due("wouldAt(" + y + ")", b.wouldAt(y), at[y]);
        }
        Check.due("the BED stays", Hill.bed(b), 112);
        Check.due("wouldAt(-1)", b.wouldAt(-1), -1);
        Check.due("wouldAt(3)", b.wouldAt(3), -1);
        Check.due("wouldBe(0)", b.wouldBe(0), 1);
        Check.due("wouldBe(1)", b.wouldBe(1), 2 + 4 + 8);
        Check.due("wouldBe(2)", b.wouldBe(2), 0);
        Check.due("wouldBe(3)", b.wouldBe(3), -1);
        Check.due("wouldBe(-1)", b.wouldBe(-1), -1);
    }

    private static void tempted() {
        BanksDealt b = Check.on(Hill.SHORE);
        Check.due("of like ones the BED of the least X", b.tempted(2, 1, 1), 1);
        Check.due("a stone on 2 2", b.temptedAt(0), 14);
        Check.due("no other", b.temptedAt(1), -1);
        Check.due("temptedAt(-1)", b.temptedAt(-1), -1);
        Check.due("it is the right one's", b.tempted(1, 1, 0), 0);
        Check.due("no works", b.temptedAt(0), -1);
        b.tempted(2, 1, 1);
        Check.due("not by 3", b.tempted(0, 1, 1), -1);
        int[][] none = {{4, 0, 0}, {-1, 0, 0}, {0, 2, 0}, {0, -1, 0}, {0, 0, 2}, {0, 0, -1}};
        for (int[] n : none) {
            Check.due("tempted by no such", b.tempted(n[0], n[1], n[2]), -1);
        }
        Check.due("the latest that was not NONE", b.temptedAt(0), 14);
        // coin is left out
        BanksDealt c = Check.on(Hill.SHORE + "purse right 0;");
        Check.due("without a coin", c.tempted(2, 1, 1), 1);
    }

    private static void temptedByMore() {
        // row 3 is 6 5 5: right must lay on both cheap cells, as the second would take the bed from the first
        BanksDealt b = Check.on("plain 3 4;source 1;land 0 3 6;field a 1 3 5;");
        Check.due("the bed", Hill.bed(b), 1001);
        Check.due("tempted by two stones", b.tempted(0, 1, 1), 2);
        Check.due("cell", b.temptedAt(0), 19);
        Check.due("cell", b.temptedAt(1), 20);
        Check.due("no third", b.temptedAt(2), -1);
        Check.due("not by ditches", b.tempted(0, 1, 0), -1);
        BanksDealt c = Check.on("plain 4 4;source 1;land 0 3 6;field a 1 3 5;");
        Check.due("tempted by three stones", c.tempted(0, 1, 1), 3);
        for (int k = 0; k < 3; k++) {
            Check.due("cell", c.temptedAt(k), 19 + k);
        }
        Check.due("no fourth", c.temptedAt(3), -1);
        BanksDealt d = Check.on("plain 5 4;source 1;land 0 3 6;field a 1 3 5;");
        Check.due("four would be needed", d.tempted(0, 1, 1), -1);
        // behind a SPRING with 4 the bed is 1 2 2, without ice 1 0 0 of 14; 1 2 2 is 15, of like ones the last
        BanksDealt e = Check.on("plain 3 3;source 1;ice 5;land 0 2 4;field a 1 2 5;");
        e.spring(4);
        Check.due("the bed", Hill.bed(e), 122);
        Check.due("tempted by two ditches", e.tempted(0, 0, 0), 2);
        Check.due("cell", e.temptedAt(0), 8);
        Check.due("cell", e.temptedAt(1), 14);
    }

    private static void duel() {
        BanksDealt b = Check.on(Hill.SHORE);
        // left can only dig 2 2 to keep croft wet, so that a stone of right does not move the bed
        Check.due("duel(0)", b.duel(0), 8 - 11);
        Check.due("left digs 2 2", b.duelAt(0), 14);
        Check.due("right does nothing", b.duelAt(1), -2);
        Check.due("duelAt(2)", b.duelAt(2), -1);
        Check.due("duelAt(-1)", b.duelAt(-1), -1);
        Check.throwsNone("duel(2)", Check.duelThrows(b, 2));
        Check.throwsNone("duel(-1)", Check.duelThrows(b, -1));
        Check.due("a call that throws changes nothing", b.duelAt(0), 14);
        // right's stone would be answered by a ditch on the same cell
        Check.due("duel(1)", b.duel(1), 11 - 8);
        Check.due("right does nothing", b.duelAt(0), -2);
        Check.due("left does nothing", b.duelAt(1), -2);
    }

    private static void duelByCoin() {
        BanksDealt b = Check.on(Hill.SHORE.replace("purse left 2", "purse left 0"));
        // without a coin left can't dig against a stone on 2 2
        Check.due("duel(0)", b.duel(0), 8 - 15);
        Check.due("left does nothing", b.duelAt(0), -2);
        Check.due("right lays a stone on 2 2", b.duelAt(1), 36 + 14);
        Check.due("duel(1)", b.duel(1), 15 - 8);
        Check.due("right lays a stone on 2 2", b.duelAt(0), 36 + 14);
        Check.due("left does nothing", b.duelAt(1), -2);
        BanksDealt c = Check.on(Hill.SHORE + "purse right 0;");
        Check.due("duel(0) with right's purse empty", c.duel(0), 8 - 11);
        Check.due("left does nothing", c.duelAt(0), -2);
        Check.due("right does nothing", c.duelAt(1), -2);
    }

    private static void duelAgainst() {
        // right's stone on 2 2 moves the bed to 1 1 1, left's ditch on 2 2 moves it back
        BanksDealt b = Check.on(Hill.SHORE.replace("field croft 2 2 4", "field croft 2 2 4;field dale 1 2 20"));
        Check.due("dale is the left one's", b.field(3, 3), 0);
        Check.due("duel(1)", b.duel(1), 11 - 28);
        Check.due("right's work", b.duelAt(0), -2);
        Check.due("duel(0)", b.duel(0), 28 - 11);
        Check.due("left's work", b.duelAt(0), 14);
    }

    private static void pushed() {
        BanksDealt b = Check.on(Hill.SHORE);
        Check.due("pushed(1, 1)", b.pushed(1, 1), 15);
        Check.due("a stone on 2 2", b.pushedAt(0), 50);
        Check.due("no other", b.pushedAt(1), -1);
        Check.due("pushedAt(-1)", b.pushedAt(-1), -1);
        Check.due("of like ones the fewest works", b.pushed(1, 2), 15);
        Check.due("a stone on 2 2", b.pushedAt(0), 50);
        Check.due("no other", b.pushedAt(1), -1);
        Check.due("pushed(1, 3)", b.pushed(1, 3), -1);
        Check.due("pushed(1, -1)", b.pushed(1, -1), -1);
        Check.due("pushed(2, 1)", b.pushed(2, 1), -1);
        Check.due("pushed(-1, 1)", b.pushed(-1, 1), -1);
        Check.due("the latest that was not NONE", b.pushedAt(0), 50);
        Check.due("pushed(1, 0)", b.pushed(1, 0), 11);
        Check.due("no works", b.pushedAt(0), -1);
        Check.due("without a coin", Check.on(Hill.SHORE + "purse right 0;").pushed(1, 1), 15);
    }

    private static void pushedByMore() {
        // the bed is 1 0; left wants it at 2: 1 2 is 2 dearer than 1 0, and as dear as 1 1
        BanksDealt b = Check.on("plain 3 2;source 1;land 0 1 4;land 2 1 4;field a 1 1 7;");
        Check.due("the bed", Hill.bed(b), 10);
        Check.due("left with one", b.pushed(0, 1), 7);
        Check.due("a stone on 0 1", b.pushedAt(0), 36 + 6);
        // two works: a stone on each of two rows, and a ditch with a stone, the ditch first
        BanksDealt c = Check.on("plain 3 2;source 1;land 0 1 4;land 1 1 3;land 2 1 5;field a 1 1 7;");
        Check.due("the bed", Hill.bed(c), 11);
        Check.due("right by one", c.pushed(1, 1), 7);
        Check.due("a stone on 1 1", c.pushedAt(0), 36 + 7);
        // 1 2 is 3 dearer: two works of right on it and on 1 1 are one too few, and the tie goes to the least X
        BanksDealt d = Check.on("plain 3 2;source 2;land 1 1 3;land 2 1 5;field a 1 1 7;field far 2 1 9;");
        Check.due("the bed", Hill.bed(d), 21);
        Check.due("far is the right one's", d.pushed(1, 2), 9);
        Check.due("left can't", d.pushed(0, 2), 0);
        // 1 2 is 2 dearer: left, in whose bank 1 1 is not, has only the bed
        BanksDealt e = Check.on("plain 3 2;source 2;land 1 1 3;land 2 1 4;field a 1 1 7;");
        Check.due("left with one", e.pushed(0, 1), 0);
        Check.due("left with two", e.pushed(0, 2), 0);
        // right may both: dig 2 1 and lay on 1 1
        BanksDealt f = Check.on("plain 3 2;source 2;land 1 1 3;land 2 1 5;field a 1 1 7;field b 0 1 3;");
        Check.due("right may move it from b's bank", f.pushed(0, 2), 3);
        Check.due("no works", f.pushedAt(0), -1);
        BanksDealt g = Check.on("plain 3 2;source 0;land 0 1 3;land 1 1 5;field a 0 1 7;");
        // a is wet; 0 1 is 2 cheaper than 1 1, and of like ones the first
        Check.due("a is wet", g.field(0, 3), 2);
        Check.due("left by stones on the bed alone", g.pushed(0, 2), 0);
    }

    private static void highest() {
        String text = "plain 3 2;source 0;land 0 1 8;land 1 1 8;field a 0 1 7;";
        BanksDealt b = Check.on(text);
        Check.due("a stone up to 9", b.pushed(0, 1), 7);
        Check.due("its cell", b.pushedAt(0), 36 + 6);
        Check.due("a stone up to 9", b.tempted(0, 0, 1), 1);
        Check.due("a stone up to 9", b.duel(0), 0);
        Check.due("the other one can dig it away", b.duelAt(0), -2);
        BanksDealt c = Check.on(text.replace("1 8;", "1 9;"));
        Check.due("no stone on 9", c.pushed(0, 2), 0);
        Check.due("no stone on 9", c.tempted(0, 0, 1), -1);
        BanksDealt d = Check.on(text + "purse right 0;");
        Check.due("none digs it away", d.duel(0), 7);
        Check.due("its cell", d.duelAt(0), 36 + 6);
        BanksDealt e = Check.on(text.replace("1 8;", "1 9;") + "purse right 0;");
        Check.due("no stone on 9", e.duel(0), 0);
    }

    private static void shares() {
        BanksDealt b = Hill.make();
        Check.due("shares(1, 4, 1, 2)", b.shares(1, 4, 1, 2), 15 + 15 + 11 + 11);
        Check.due("shares(1, 1, 1, 2)", b.shares(1, 1, 1, 2), 15);
        Check.due("shares(1, 4, 2, 2)", b.shares(1, 4, 2, 2), 15 + 15 + 11 + 11 + 15 + 15 + 15 + 11);
        BanksDealt c = Check.on(Hill.TEXT.replace("field pea 2 2 4;", ""));
        Check.due("shares(0, 10, 30, 2)", c.shares(0, 10, 30, 2), 8 * 300);
        Check.due("from the most to the least seed", b.shares(0, 1, 2, Integer.MAX_VALUE), 16);
        int[][] none = {{2, 1, 1}, {-1, 1, 1}, {0, 0, 1}, {0, 11, 1}, {0, 1, 0}, {0, 1, 31}, {0, -1, -1}};
        for (int[] n : none) {
            Check.due("shares of no such", b.shares(n[0], n[1], n[2], 1), -1);
        }
    }

    private static void odds() {
        BanksDealt b = Hill.make();
        // pea behind a SPRING with 2 to 6: the BED of its row is 1, 0, 0, 2, 2
        int[] due = {0, 3, 2};
        for (int s = 0; s < 3; s++) {
            Check.due("odds(2, " + s + ", 1, 5, 2)", b.odds(2, s, 1, 5, 2), due[s]);
        }
        Check.due("behind two YEARS", b.odds(2, 1, 2, 2, 2), 2);
        Check.due("behind three YEARS", b.odds(2, 2, 3, 2, 2), 1);
        Check.due("behind four YEARS", b.odds(2, 2, 4, 2, 2), 2);
        Check.due("the most", b.odds(0, 0, 10, 30, 2), 30);
        int[][] none = {{4, 0, 1, 1}, {-1, 0, 1, 1}, {0, 3, 1, 1}, {0, -1, 1, 1}, {0, 0, 0, 1}, {0, 0, 11, 1},
            {0, 0, 1, 0}, {0, 0, 1, 31}};
        for (int[] n : none) {
            Check.due("odds of no such", b.odds(n[0], n[1], n[2], n[3], 1), -1);
        }
    }

    private static void whenSpringsAreOver() {
        // Without ice the river stays in 1 1 2: barn (8) is the left one's, mead and heath (6, 5) the right one's.
        BanksDealt b = Check.on(Hill.SHORE);
        for (int i = 0; i < 13; i++) {
            b.years(30, i);
        }
        Check.due("10 SPRINGS are left", b.shares(0, 10, 2, 1), 10 * 2 * 8);
        b.years(7, 1);
        Check.due("as many YEARS as SPRINGS are left", b.shares(0, 3, 2, 1), 3 * 2 * 8);
        Check.due("one YEAR more than SPRINGS are left", b.shares(0, 4, 2, 1), 3 * 2 * 8);
        Check.due("odds() behind those that are left", b.odds(0, 0, 10, 2, 1), 2);
        b.years(2, 1);
        Check.due("one is left", b.shares(1, 10, 30, 1), 30 * 11);
        Check.due("it is still there for the next call", b.shares(1, 1, 30, 1), 30 * 11);
        b.spring(1);
        Check.due("now(0)", b.now(0), 400);
        Check.due("all are over", b.shares(0, 1, 1, 1), 0);
        Check.due("all are over", b.shares(1, 10, 30, 1), 0);
        Check.due("no such ones all the same", b.shares(1, 11, 30, 1), -1);
        Check.due("odds(): nothing moves any more", b.odds(0, 0, 10, 30, 1), 30);
        Check.due("odds() of another one", b.odds(0, 1, 10, 30, 1), 0);
        b.undo();
        Check.due("one is left again", b.shares(0, 10, 1, 1), 8);
    }

    private static List<Integer> allThatIsSo(BanksDealt b) {
        List<Integer> all = new ArrayList<>();
        for (int k = 0; k < 5; k++) {
            all.add(b.now(k));
            all.add(b.side(0, k));
            all.add(b.side(1, k));
            for (int f = 0; f < b.count(0); f++) {
                all.add(b.field(f, k));
            }
            for (int y = 0; y < 3; y++) {
                all.add(b.height(k, y));
                all.add(b.ago(k, y));
            }
        }
        all.add(Hill.bed(b));
        all.add(b.mill(0, 0));
        return all;
    }

    private static void nothingChanges() {
        BanksDealt b = Check.on(Hill.SHORE.replace("ice 0", "ice 5"));
        b.years(2, 5);
        b.dig(1, 3, 0);
        List<Integer> ahead = allThatIsSo(b);
        b.would();
        b.wouldAt(1);
        b.wouldBe(1);
        for (int s = 0; s < 2; s++) {
            b.duel(s);
            b.pushed(s, 2);
            b.shares(s, 10, 10, 5);
            for (int f = 0; f < 4; f++) {
                b.tempted(f, s, 0);
                b.tempted(f, s, 1);
                b.odds(f, s, 10, 10, 5);
            }
        }
        Check.dueText("all that is so", allThatIsSo(b).toString(), ahead.toString());
        Check.due("undo()", b.undo(), 1);
    }
}
