/** Promises 39, 40 and 5: SENTENCES and what they are said of. */
public final class SentenceTest {
    public static void main(String[] args) {
        faults();
        tooMany();
        longest();
        sayings();
        joins();
        asAllChanges();
        stays();
        Check.end("SentenceTest");
    }

    private static void faults() {
        BanksDealt b = Hill.make();
        Check.sentenceFault(b, "", 1, 0);
        Check.sentenceFault(b, "  ", 1, 2);
        Check.sentenceFault(b, "bean", 1, 0);
        Check.sentenceFault(b, ";", 1, 0);
        Check.sentenceFault(b, "5", 1, 0);
        Check.sentenceFault(b, "or left", 1, 0);
        Check.sentenceFault(b, "left right", 1, 5);
        Check.sentenceFault(b, "left;", 1, 4);
        Check.sentenceFault(b, "left or", 1, 7);
        Check.sentenceFault(b, "left and or", 1, 9);
        Check.sentenceFault(b, "not", 1, 3);
        Check.sentenceFault(b, "not and", 1, 4);
        Check.sentenceFault(b, "(left", 1, 5);
        Check.sentenceFault(b, "(left wet", 1, 6);
        Check.sentenceFault(b, "(left))", 1, 6);
        Check.sentenceFault(b, "()", 1, 1);
        Check.sentenceFault(b, "same", 1, 4);
        Check.sentenceFault(b, "same left", 1, 5);
        Check.sentenceFault(b, "same plain", 1, 5);
        Check.sentenceFault(b, "same 1", 1, 5);
        Check.sentenceFault(b, "same nobody", 3, 5);
        Check.sentenceFault(b, "above nobody", 3, 6);
        Check.sentenceFault(b, "same grind", 3, 5);
        Check.sentenceFault(b, "worth 5", 1, 6);
        Check.sentenceFault(b, "worth (", 1, 6);
        Check.sentenceFault(b, "worth = a", 1, 8);
        Check.sentenceFault(b, "worth = =", 1, 8);
        Check.sentenceFault(b, "worth < = 1", 1, 8);
        Check.sentenceFault(b, "worth=1000", 1, 6);
        Check.sentenceFault(b, "worth=", 1, 6);
        Check.sentenceFault(b, "worth>4and left", 1, 6);
        Check.sentenceFault(b, "digs", 1, 0);
        Check.due("no SENTENCE", b.said(-1), -1);
    }

    private static void tooMany() {
        BanksDealt b = Hill.make();
        String many = Check.repeat("left and ", 19);
        Check.due("20 ONES", Check.sentence(b, many + "left"), 20);
        many += "left and ";
        Check.sentenceFault(b, many + "left", 4, 180);
        Check.sentenceFault(b, many + "not left", 4, 180);
        Check.sentenceFault(b, many + "(", 4, 180);
        Check.sentenceFault(b, many + "same nobody", 4, 180);
        Check.sentenceFault(b, many + "bean", 1, 180);
        Check.sentenceFault(b, many, 1, 180);
        String wide = Check.repeat("(wet)or ", 9);
        Check.due("brackets count", Check.sentence(b, wide + "not left"), 20);
        Check.sentenceFault(b, wide + "(not left", 4, 77);
        Check.due("8 within one another", Check.sentence(b, Check.repeat("(", 7) + "left" + Check.repeat(")", 7)), 8);
        Check.due("8 within one another", Check.sentence(b, Check.repeat("not ", 7) + "left"), 8);
        Check.due("twice 8", Check.sentence(b, Check.repeat("not ", 7) + "left or " + Check.repeat("not(", 3) + "not wet)))"),
            16);
        Check.sentenceFault(b, Check.repeat("(", 8) + "left", 4, 8);
        Check.sentenceFault(b, Check.repeat("not ", 8) + "left", 4, 32);
        Check.sentenceFault(b, Check.repeat("not(", 4) + "same nobody", 4, 16);
        Check.sentenceFault(b, Check.repeat("(", 8) + "bean", 1, 8);
        Check.sentenceFault(b, Check.repeat("(", 9), 4, 8);
        Check.sentenceFault(b, Check.repeat("(", 8), 1, 8);
    }

    private static void longest() {
        BanksDealt b = Hill.make();
        Check.due("200 bytes", Check.sentence(b, "left" + Check.repeat("\n", 196)), 1);
        Check.sentenceFault(b, "left" + Check.repeat(" ", 197), 1, 200);
        Check.sentenceFault(b, Check.repeat(" ", 198) + "left", 1, 200);
        Check.sentenceFault(b, Check.repeat(" ", 198) + "lefty", 1, 198);
        Check.sentenceFault(b, Check.repeat(" ", 193) + "same  ", 1, 199);
        Check.sentenceFault(b, Check.repeat(" ", 194) + "same  bean", 1, 200);
        Check.sentenceFault(b, Check.repeat(" ", 194) + "same nobody", 3, 199);
    }

    private static void say(BanksDealt b, String text, int... fields) {
        Check.due("ONES of '" + text + "'", Check.sentence(b, text) > 0, true);
        Check.due("how many by '" + text + "'", b.said(-1), fields.length);
        for (int k = 0; k < fields.length; k++) {
            Check.due("said(" + k + ") by '" + text + "'", b.said(k), fields[k]);
        }
        Check.due("said(" + fields.length + ") by '" + text + "'", b.said(fields.length), -1);
    }

    private static void sayings() {
        BanksDealt b = Hill.make();
        say(b, "left", 0);
        say(b, "right", 1, 3);
        say(b, "wet", 2);
        say(b, "near", 0);
        say(b, "same bean", 0);
        say(b, "same oats", 1, 3);
        say(b, "same pea");
        say(b, "above bean");
        say(b, "above rye", 0, 1);
        say(b, "above pea", 0, 1, 3);
        say(b, "worth > 5", 0, 1);
        say(b, "worth=5", 3);
        say(b, "worth<6", 2, 3);
        say(b, "height<5", 2);
        say(b, "height = 3", 2);
        say(b, "height>4", 0, 1, 3);
        say(b, "changed=0", 0, 1, 2, 3);
        say(b, "changed>0");
        say(b, "number>1", 2, 3);
        say(b, "number=0", 0);
        say(b, "number<999", 0, 1, 2, 3);
        Check.due("said(-2)", b.said(-2), -1);
        Check.due("said(most)", b.said(Integer.MAX_VALUE), -1);
        Check.due("said(least)", b.said(Integer.MIN_VALUE), -1);
        // near on both banks, and not in the next row
        BanksDealt c = Check.on("plain 5 2;source 2;land 2 1 0;field a 1 0 1;field d 3 1 1;field e 2 1 1;field g 0 0 1;");
        say(c, "near", 0, 1);
        BanksDealt none = new BanksDealt();
        Check.due("without FIELDS", Check.sentence(none, "left or not left"), 3);
        Check.due("of none", none.said(-1), 0);
        Check.due("of none", none.said(0), -1);
    }

    private static void joins() {
        BanksDealt b = Hill.make();
        say(b, "left or right and number=3", 0, 3);
        say(b, "(left or right) and number=3", 3);
        say(b, "number=3 and right or left", 0, 3);
        say(b, "not left and right", 1, 3);
        say(b, "not left or wet", 1, 2, 3);
        say(b, "not (left or right)", 2);
        say(b, "not not left", 0);
        say(b, "left and right");
        say(b, "left or right or wet", 0, 1, 2, 3);
        say(b, "worth>4 and(left or not near)and not(number=3 or wet)", 0, 1);
        Check.due("ONES", Check.sentence(b, "not (left or right)"), 4);
        Check.due("ONES", Check.sentence(b, "left and same bean or not worth < 3"), 4);
    }

    private static void asAllChanges() {
        BanksDealt b = Hill.make();
        Check.sentence(b, "changed>0 or height=4");
        Check.due("of none", b.said(-1), 0);
        b.dig(0, 0, 0);
        Check.due("bean", b.said(0), 0);
        b.spring(2);
        Check.due("bean and pea", b.said(-1), 2);
        Check.due("pea", b.said(1), 2);
        b.undo();
        b.undo();
        Check.due("of none again", b.said(-1), 0);
    }

    private static void stays() {
        BanksDealt b = Hill.make();
        Check.sentence(b, "wet");
        Check.sentenceFault(b, "left and", 1, 8);
        Check.due("it stays", b.said(0), 2);
        Check.due("fault()", b.fault(), 1);
        Check.sentence(b, "right");
        Check.due("fault()", b.fault(), 0);
        Check.due("the new one", b.said(-1), 2);
        Check.plain(b, "x");
        Check.due("a FAULT of plain()", b.said(-1), 2);
        Check.plain(b, Hill.TEXT);
        Check.due("a new PLAIN", b.said(-1), -1);
    }
}
