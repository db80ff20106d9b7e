/** A small PLAIN that most tests stand on, with what is known of it by hand. */
final class Hill {
    /**
     * Heights 5 5 5 5 / 5 1 5 5 / 5 5 3 5; the bed is 1 1 2. bean is the left one's, oats and rye are the right one's,
     * pea is wet.
     */
    static final String TEXT = "plain 4 3; source 1; ice 5; land 1 1 1; land 2 2 3; field bean 0 0 8; field oats 3 0 6;"
        + " field pea 2 2 4; field rye 3 1 5; mill grind 0 1; mill wheel 3 2; purse left 2; purse right 9;";

    /**
     * Heights 5 5 5 5 / 2 1 5 5 / 5 4 3 5; the bed is 1 1 2, one coin cheaper than 1 1 1. barn is the left one's, mead
     * and heath are the right one's, croft is wet.
     */
    static final String SHORE = "plain 4 3;land 0 1 2;land 1 1 1;land 2 2 3;land 1 2 4;source 1;field barn 0 0 8;"
        + "field mead 3 1 6;field croft 2 2 4;field heath 2 1 5;mill wheel 0 2;purse left 2;ice 0;";

    private Hill() {
    }

    static BanksDealt make() {
        return Check.on(TEXT);
    }

    /** X of the bed, row by row, as one number. */
    static int bed(BanksDealt b) {
        int all = 0;
        for (int y = 0; y < b.count(2); y++) {
            all = 10 * all + b.bed(y);
        }
        return all;
    }
}
