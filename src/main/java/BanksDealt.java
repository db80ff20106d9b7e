import java.util.NoSuchElementException;

/** A plain with a river whose bed each spring deals the banks anew. What it does: ../shared/DOC.md. */
public final class BanksDealt {
    public static final int NONE = -1;

    /** Cells are numbered 6 by Y and X in every PLAIN, however wide it is. */
    private static final int ROW = 6;
    private static final int CELLS = 36;
    private static final int FIELDS_MOST = 10;
    private static final int MILLS_MOST = 3;
    private static final int SPRINGS_MOST = 400;
    private static final int COIN_MOST = 999;
    private static final int HEIGHT_MOST = 9;
    private static final int KEPT = 8;
    private static final int TAPE_MOST = 940;
    private static final int PLAIN_MOST = 900;
    private static final int BOOK_MOST = 400;
    private static final int SENTENCE_MOST = 200;
    private static final int LINES_MOST = 40;
    private static final int ONES_MOST = 20;
    private static final int WITHIN_MOST = 8;
    private static final int YEARS_MOST = 30;

    private static final int LEFT = 0;
    private static final int RIGHT = 1;
    private static final int WET = 2;
    private static final int DITCH = -1;
    private static final int STONE = 1;
    private static final int NO_WORK = -2;
    /** Below every lead, as all FIELDS together have a WORTH of 200 at most. */
    private static final int NO_LEAD = -1000;

    /** WORDS and NAMES are numbers of 5 bits a letter, so that comparing them makes no object. */
    private static final int LETTER_BITS = 5;
    private static final int LETTERS_MOST = 7;

    private static final int END = 0;
    private static final int BAD = 1;
    private static final int WORD = 2;
    private static final int NUMBER = 3;

    /** In the order of the W_ numbers; a blank ends each. */
    private static final String WORDS = "plain land source field mill purse left right ice digs lays rolls spring years or and not wet near same above worth height changed number ";
    private static final int WORDS_TOLD = 25;
    private static final int W_PLAIN = 0;
    private static final int W_LAND = 1;
    private static final int W_SOURCE = 2;
    private static final int W_FIELD = 3;
    private static final int W_MILL = 4;
    private static final int W_PURSE = 5;
    private static final int W_LEFT = 6;
    private static final int W_RIGHT = 7;
    private static final int W_ICE = 8;
    private static final int W_DIGS = 9;
    private static final int W_LAYS = 10;
    private static final int W_ROLLS = 11;
    private static final int W_SPRING = 12;
    private static final int W_YEARS = 13;
    private static final int W_OR = 14;
    private static final int W_AND = 15;
    private static final int W_NOT = 16;
    private static final int W_WET = 17;
    private static final int W_NEAR = 18;
    private static final int W_SAME = 19;
    private static final int W_ABOVE = 20;
    private static final int W_WORTH = 21;
    private static final int W_HEIGHT = 22;
    private static final int W_CHANGED = 23;
    private static final int W_NUMBER = 24;

    private final Tape tape = new Tape();
    private Plain now = new Plain();
    private Plain draft = new Plain();
    private final Plain trial = new Plain();
    private final River river = new River();
    private final PlainReader plainReader = new PlainReader();
    private final Book book = new Book();
    private Sentence saying = new Sentence();
    private Sentence sayingDraft = new Sentence();
    private final Plans plans = new Plans();
    private final Bygone bygone = new Bygone();
    private final Deed deed = new Deed();
    private final History history = new History();
    private final Image[] images = {new Image(), new Image()};
    private final int[] told = new int[4];
    private boolean toldOnce;
    private int fault;

    public BanksDealt() {
    }

    public int feed(int a, int b, int c, int d, int e) {
        if (tape.size > TAPE_MOST - 20) {
            return NONE;
        }
        tape.add(a);
        tape.add(b);
        tape.add(c);
        tape.add(d);
        tape.add(e);
        return tape.size;
    }

    public boolean end(int n) {
        if (n < 0 || n > tape.size) {
            return false;
        }
        tape.size = n;
        return true;
    }

    public int plain() {
        int lines = plainReader.readText(tape, draft);
        emptyTape();
        if (lines == NONE) {
            return -1 - tape.place;
        }
        river.takeLeast(draft);
        Plain old = now;
        now = draft;
        draft = old;
        saying.forget();
        history.forget();
        return lines;
    }

    private void emptyTape() {
        fault = tape.fault;
        tape.size = 0;
    }

    public int fault() {
        return fault;
    }

    public int field(int f, int what) throws NoSuchElementException {
        if (!isField(f) || what < 0 || what > 4) {
            throw new NoSuchElementException();
        }
        int cell = now.fieldCell[f];
        switch (what) {
            case 0:
                return cell % ROW;
            case 1:
                return cell / ROW;
            case 2:
                return now.worth[f];
            case 3:
                return bankBy(now.course, cell);
            default:
                return now.changed[f];
        }
    }

    private boolean isField(int f) {
        return f >= 0 && f < now.fields;
    }

    public int mill(int m, int what) {
        if (m < 0 || m >= now.mills) {
            return NONE;
        }
        int cell = now.millCell[m];
        switch (what) {
            case 0:
                return cell % ROW;
            case 1:
                return cell / ROW;
            case 2:
                return bankBy(now.course, cell);
            case 3:
                return now.rolled[m];
            default:
                return NONE;
        }
    }

    public int height(int x, int y) {
        int cell = now.cellAt(x, y);
        return cell == NONE ? NONE : now.heights[cell];
    }

    public int bank(int x, int y) {
        int cell = now.cellAt(x, y);
        return cell == NONE ? NONE : bankBy(now.course, cell);
    }

    public int bed(int y) {
        return isRow(y) ? now.course[y] : NONE;
    }

    private boolean isRow(int y) {
        return y >= 0 && y < now.high;
    }

    public int side(int s, int what) {
        if (!isSide(s)) {
            return NONE;
        }
        switch (what) {
            case 0:
                return now.coin[s];
            case 1:
                return now.fieldsBy(now.course, s);
            case 2:
                return now.worthBy(now.course, s);
            case 3:
                return now.worked[s];
            default:
                return NONE;
        }
    }

    private static boolean isSide(int s) {
        return s == LEFT || s == RIGHT;
    }

    public int now(int what) {
        switch (what) {
            case 0:
                return now.springs;
            case 1:
                return now.fieldsBy(now.course, WET);
            case 2:
                return now.bedHeights();
            case 3:
                return now.bends();
            case 4:
                return now.changes();
            default:
                return NONE;
        }
    }

    public int dig(int s, int x, int y) {
        return workBy(s, x, y, DITCH);
    }

    public int lay(int s, int x, int y) {
        return workBy(s, x, y, STONE);
    }

    private int workBy(int s, int x, int y, int change) {
        int cell = now.cellAt(x, y);
        if (!isSide(s) || cell == NONE) {
            return NONE;
        }
        int why = now.whyNoWork(s, cell, change);
        if (why == 0) {
            history.keep(now);
            now.work(s, cell, change);
        }
        return why;
    }

    public int roll(int m, int x, int y) {
        int cell = now.cellAt(x, y);
        if (m < 0 || m >= now.mills || cell == NONE) {
            return NONE;
        }
        int why = now.whyNoRoll(m, cell);
        if (why == 0) {
            history.keep(now);
            now.rollTo(m, cell);
        }
        return why;
    }

    public int spring(int seed) {
        if (now.springs >= SPRINGS_MOST) {
            return NONE;
        }
        history.keep(now);
        river.seed = seed;
        return river.flood(now);
    }

    public int years(int n, int seed) {
        if (n < 1 || n > YEARS_MOST) {
            return NONE;
        }
        if (now.springs >= SPRINGS_MOST) {
            return 0;
        }
        history.keep(now);
        river.seed = seed;
        return river.floods(now, n);
    }

    public int undo() {
        if (history.size == 0) {
            return NONE;
        }
        history.takeBack(now);
        return history.size;
    }

    public int would() {
        river.runFreely(now);
        return river.total;
    }

    public int wouldAt(int y) {
        if (!isRow(y)) {
            return NONE;
        }
        river.runFreely(now);
        return river.course[y];
    }

    public int wouldBe(int s) {
        if (s < LEFT || s > WET) {
            return NONE;
        }
        river.runFreely(now);
        return now.fieldsBy(river.course, s);
    }

    public int tempted(int f, int s, int stones) {
        if (!isField(f) || !isSide(s) || stones < 0 || stones > 1) {
            return NONE;
        }
        return plans.tempt(now, f, s, stones == 1 ? STONE : DITCH);
    }

    public int temptedAt(int k) {
        return k >= 0 && k < plans.temptedSize ? plans.temptedCells[k] : NONE;
    }

    public int duel(int s) throws NoSuchElementException {
        if (!isSide(s)) {
            throw new NoSuchElementException();
        }
        return plans.fight(now, s);
    }

    public int duelAt(int k) {
        return plans.fought && k >= 0 && k < 2 ? plans.duelWorks[k] : NONE;
    }

    public int pushed(int s, int n) {
        if (!isSide(s) || n < 0 || n > 2) {
            return NONE;
        }
        return plans.push(now, s, n);
    }

    public int pushedAt(int k) {
        return k >= 0 && k < plans.pushedSize ? plans.pushedWorks[k] : NONE;
    }

    public int ago(int k, int y) {
        if (k < 1 || k > KEPT || k > now.springs || !isRow(y)) {
            return NONE;
        }
        return now.past[(now.springs - k) % KEPT * ROW + y];
    }

    public int shares(int s, int m, int n, int seed) {
        if (!isSide(s) || !areTrials(m, n)) {
            return NONE;
        }
        int all = 0;
        for (int i = 0; i < n; i++) {
            trial.copyOf(now);
            river.seed = seed + i;
            // Behind the last SPRING there is no YEAR any more, and so no WORTH behind one.
            for (int year = 0; year < m && river.floods(trial, 1) == 1; year++) {
                all += trial.worthBy(trial.course, s);
            }
        }
        return all;
    }

    private static boolean areTrials(int m, int n) {
        return m >= 1 && m <= 10 && n >= 1 && n <= 30;
    }

    public int ran() {
        int beds = bygone.findBeds(tape, now);
        tape.size = 0;
        return beds;
    }

    public int ranAt(int y) {
        return y >= 0 && y < bygone.rows ? bygone.first[y] : NONE;
    }

    public int sure(int y) {
        return y >= 0 && y < bygone.rows ? bygone.sureAt[y] : NONE;
    }

    public int odds(int f, int s, int m, int n, int seed) {
        if (!isField(f) || s < LEFT || s > WET || !areTrials(m, n)) {
            return NONE;
        }
        int often = 0;
        for (int i = 0; i < n; i++) {
            trial.copyOf(now);
            river.seed = seed + i;
            river.floods(trial, m);
            if (bankBy(trial.course, trial.fieldCell[f]) == s) {
                often++;
            }
        }
        return often;
    }

    public int richest(int s) {
        if (!isSide(s)) {
            return NONE;
        }
        int best = NONE;
        int most = 0;
        for (int f = 0; f < now.fields; f++) {
            if (now.worth[f] > most && bankBy(now.course, now.fieldCell[f]) == s) {
                best = f;
                most = now.worth[f];
            }
        }
        return best;
    }

    public int deed(int f) {
        if (!isField(f)) {
            return NONE;
        }
        deed.write(now, f);
        return deed.size;
    }

    public int byteAt(int i) {
        return i >= 0 && i < deed.size ? deed.bytes[i] : NONE;
    }

    public int book(int lives) {
        if (lives != 0 && lives != 1) {
            return -1000;
        }
        boolean whole = book.readText(tape, now);
        emptyTape();
        if (!whole) {
            return -2 - tape.place;
        }
        trial.copyOf(now);
        int lived = book.live(trial, river);
        told[0] = book.why;
        told[1] = lived;
        told[2] = trial.springs;
        told[3] = trial.fieldsBy(trial.course, LEFT);
        toldOnce = true;
        if (lives == 1 && lived > 0) {
            history.keep(now);
            now.copyOf(trial);
        }
        return book.why == 0 ? NONE : lived;
    }

    public int told(int what) {
        return toldOnce && what >= 0 && what < told.length ? told[what] : NONE;
    }

    public int sentence() {
        boolean whole = sayingDraft.readText(tape, now);
        emptyTape();
        if (!whole) {
            return -1 - tape.place;
        }
        Sentence old = saying;
        saying = sayingDraft;
        sayingDraft = old;
        return saying.ones;
    }

    public int said(int k) {
        if (saying.size == 0 || k < NONE) {
            return NONE;
        }
        int fields = saying.fieldsSaid(now);
        if (k == NONE) {
            return Integer.bitCount(fields);
        }
        int ahead = 0;
        for (int f = 0; f < now.fields; f++) {
            if ((fields >> f & 1) == 1) {
                if (ahead == k) {
                    return f;
                }
                ahead++;
            }
        }
        return NONE;
    }

    public boolean image(int k) {
        if (k < 0 || k >= images.length) {
            return false;
        }
        images[k].plain.copyOf(now);
        images[k].saying.copyOf(saying);
        images[k].kept = true;
        return true;
    }

    public boolean restore(int k) {
        if (k < 0 || k >= images.length || !images[k].kept) {
            return false;
        }
        now.copyOf(images[k].plain);
        saying.copyOf(images[k].saying);
        history.forget();
        return true;
    }

    public int count(int what) {
        switch (what) {
            case 0:
                return now.fields;
            case 1:
                return now.wide;
            case 2:
                return now.high;
            case 3:
                return now.source;
            case 4:
                return now.ice;
            case 5:
                return now.mills;
            case 6:
                return tape.size;
            default:
                return NONE;
        }
    }

    /** Whose a cell is by a bed: LEFT, RIGHT, or WET in the bed itself. */
    private static int bankBy(int[] course, int cell) {
        int y = cell / ROW;
        if (cell < 0 || y >= course.length) {
            return NONE;
        }
        int x = cell % ROW;
        if (x == course[y]) {
            return WET;
        }
        return x < course[y] ? LEFT : RIGHT;
    }

    /** Which of the first names this one is. */
    private static int indexOfName(long[] names, int size, long name) {
        for (int i = 0; i < size && i < names.length; i++) {
            if (names[i] == name) {
                return i;
            }
        }
        return NONE;
    }

    /** The bytes that were fed, and the TOKENS of the text that they are. */
    private static final class Tape {
        final int[] bytes = new int[TAPE_MOST];
        int size;
        int kind;
        long name;
        int word;
        int number;
        int fault;
        int place;
        private final long[] words = new long[WORDS_TOLD];
        private int most;
        private int next;
        private int at;

        Tape() {
            int w = 0;
            long key = 0;
            for (int i = 0; i < WORDS.length() && w < words.length; i++) {
                char c = WORDS.charAt(i);
                if (c == ' ') {
                    words[w] = key;
                    w++;
                    key = 0;
                } else {
                    key = (key << LETTER_BITS) + (c - 'a' + 1);
                }
            }
        }

        void add(int four) {
            for (int shift = 24; shift >= 0 && size < TAPE_MOST; shift -= 8) {
                bytes[size] = four >>> shift & 255;
                size++;
            }
        }

        void begin(int mostBytes) {
            most = mostBytes;
            next = 0;
            fault = 0;
            place = 0;
            step();
        }

        void step() {
            int i = next;
            while (i < size && (bytes[i] == ' ' || bytes[i] == '\n')) {
                i++;
            }
            next = i;
            at = i;
            if (i >= most && size > most) {
                at = most;
                kind = BAD;
            } else if (i >= size) {
                kind = END;
            } else if (isSmall(bytes[i]) || isDigit(bytes[i])) {
                readWordOrNumber();
                word = kind == WORD ? indexOfName(words, words.length, name) : NONE;
            } else {
                next = i + 1;
                kind = isSign(bytes[i]) ? bytes[i] : BAD;
            }
        }

        private void readWordOrNumber() {
            int letters = 0;
            int digits = 0;
            long key = 0;
            int value = 0;
            int i = at;
            for (; i < size; i++) {
                int c = bytes[i];
                if (c >= 'a' && c <= 'z') {
                    letters++;
                    key = (key << LETTER_BITS) + (c - 'a' + 1);
                } else if (c >= '0' && c <= '9') {
                    digits++;
                    value = 10 * value + c - '0';
                } else {
                    break;
                }
            }
            next = i;
            kind = BAD;
            if (digits == 0 && letters <= LETTERS_MOST) {
                kind = WORD;
                name = key;
            } else if (letters == 0 && digits <= 3) {
                kind = NUMBER;
                number = value;
            }
        }

        private static boolean isSmall(int c) {
            return c >= 'a' && c <= 'z';
        }

        private static boolean isDigit(int c) {
            return c >= '0' && c <= '9';
        }

        private static boolean isSign(int c) {
            return c == ';' || c == '<' || c == '=' || c == '>' || c == '(' || c == ')';
        }

        boolean fails(int why) {
            fault = why;
            place = at;
            return false;
        }

        boolean isWord(int which) {
            return kind == WORD && word == which;
        }

        boolean isName() {
            return kind == WORD && word == NONE;
        }

        /** The next TOKEN is this sign. */
        boolean sign(int which) {
            step();
            return kind == which || fails(1);
        }

        /** The next TOKEN is a NUMBER between these. */
        boolean between(int low, int top) {
            step();
            if (kind != NUMBER) {
                return fails(1);
            }
            return number >= low && number <= top || fails(2);
        }
    }

    /** A PLAIN and all that is so on it. */
    private static final class Plain {
        int wide;
        int high;
        int source;
        int ice;
        final int[] heights = new int[CELLS];
        final int[] course = new int[ROW];
        int fields;
        final int[] fieldCell = new int[FIELDS_MOST];
        final int[] worth = new int[FIELDS_MOST];
        final int[] changed = new int[FIELDS_MOST];
        final long[] fieldName = new long[FIELDS_MOST];
        int mills;
        final int[] millCell = new int[MILLS_MOST];
        final int[] rolled = new int[MILLS_MOST];
        final long[] millName = new long[MILLS_MOST];
        final int[] coin = new int[2];
        final int[] worked = new int[2];
        int springs;
        final int[] past = new int[KEPT * ROW];

        Plain() {
            reset();
        }

        void reset() {
            wide = 5;
            high = 5;
            source = 0;
            ice = 2;
            fields = 0;
            mills = 0;
            springs = 0;
            for (int c = 0; c < CELLS; c++) {
                heights[c] = 5;
            }
            for (int y = 0; y < ROW; y++) {
                course[y] = 0;
            }
            for (int s = LEFT; s <= RIGHT; s++) {
                coin[s] = 9;
                worked[s] = 0;
            }
        }

        void copyOf(Plain other) {
            wide = other.wide;
            high = other.high;
            source = other.source;
            ice = other.ice;
            fields = other.fields;
            mills = other.mills;
            springs = other.springs;
            System.arraycopy(other.heights, 0, heights, 0, CELLS);
            System.arraycopy(other.course, 0, course, 0, ROW);
            System.arraycopy(other.fieldCell, 0, fieldCell, 0, FIELDS_MOST);
            System.arraycopy(other.worth, 0, worth, 0, FIELDS_MOST);
            System.arraycopy(other.changed, 0, changed, 0, FIELDS_MOST);
            System.arraycopy(other.fieldName, 0, fieldName, 0, FIELDS_MOST);
            System.arraycopy(other.millCell, 0, millCell, 0, MILLS_MOST);
            System.arraycopy(other.rolled, 0, rolled, 0, MILLS_MOST);
            System.arraycopy(other.millName, 0, millName, 0, MILLS_MOST);
            System.arraycopy(other.coin, 0, coin, 0, 2);
            System.arraycopy(other.worked, 0, worked, 0, 2);
            System.arraycopy(other.past, 0, past, 0, KEPT * ROW);
        }

        int cellAt(int x, int y) {
            return x >= 0 && x < wide && y >= 0 && y < high ? ROW * y + x : NONE;
        }

        int fieldsBy(int[] bed, int whose) {
            int bits = 0;
            for (int f = 0; f < fields; f++) {
                if (bankBy(bed, fieldCell[f]) == whose) {
                    bits |= 1 << f;
                }
            }
            return bits;
        }

        int worthBy(int[] bed, int whose) {
            int sum = 0;
            for (int f = 0; f < fields; f++) {
                if (bankBy(bed, fieldCell[f]) == whose) {
                    sum += worth[f];
                }
            }
            return sum;
        }

        int bedHeights() {
            int sum = 0;
            for (int y = 0; y < high; y++) {
                sum += heights[ROW * y + course[y]];
            }
            return sum;
        }

        int bends() {
            int often = 0;
            for (int y = 1; y < high; y++) {
                if (course[y] != course[y - 1]) {
                    often++;
                }
            }
            return often;
        }

        int changes() {
            int sum = 0;
            for (int f = 0; f < fields; f++) {
                sum += changed[f];
            }
            return sum;
        }

        int whyNoWork(int side, int cell, int change) {
            if (coin[side] < 1) {
                return 1;
            }
            if (bankBy(course, cell) == 1 - side) {
                return 2;
            }
            int then = heights[cell] + change;
            return then < 0 || then > HEIGHT_MOST ? 3 : 0;
        }

        void work(int side, int cell, int change) {
            heights[cell] += change;
            coin[side]--;
            worked[side]++;
        }

        int whyNoRoll(int m, int cell) {
            int across = Math.abs(millCell[m] % ROW - cell % ROW);
            int along = Math.abs(millCell[m] / ROW - cell / ROW);
            if (across + along != 1) {
                return 1;
            }
            return bankBy(course, millCell[m]) == WET ? 2 : 0;
        }

        void rollTo(int m, int cell) {
            millCell[m] = cell;
            rolled[m]++;
        }

        /** The river leaves its bed for this one; how many FIELDS CHANGED. */
        int takeBed(int[] bed) {
            int often = 0;
            for (int f = 0; f < fields; f++) {
                if (bankBy(bed, fieldCell[f]) != bankBy(course, fieldCell[f])) {
                    changed[f]++;
                    often++;
                }
            }
            System.arraycopy(course, 0, past, springs % KEPT * ROW, ROW);
            System.arraycopy(bed, 0, course, 0, ROW);
            springs++;
            return often;
        }

        void earn() {
            for (int s = LEFT; s <= RIGHT; s++) {
                int more = worthBy(course, s) / 4;
                for (int m = 0; m < mills; m++) {
                    if (bankBy(course, millCell[m]) == s) {
                        more += 2;
                    }
                }
                coin[s] = Math.min(COIN_MOST, coin[s] + more);
            }
        }
    }

    /** Where the river goes over a ground, which may be other than the PLAIN's HEIGHTS. */
    private static final class River {
        final int[] ground = new int[CELLS];
        final int[] course = new int[ROW];
        int total;
        int seed;
        private final int[] rest = new int[CELLS];
        private final int[] onward = new int[CELLS];

        void load(Plain p) {
            System.arraycopy(p.heights, 0, ground, 0, CELLS);
        }

        void runFreely(Plain p) {
            load(p);
            run(p);
        }

        /** A new PLAIN has its first bed without a SPRING: nothing is earned, nothing CHANGED. */
        void takeLeast(Plain p) {
            runFreely(p);
            System.arraycopy(course, 0, p.course, 0, ROW);
        }

        /** Finds the course from the last row up, for then the least X of each row is known to be on a least bed. */
        void run(Plain p) {
            int last = p.high - 1;
            for (int y = last; y >= 0; y--) {
                // Of a row only cells that are reached from the source count.
                int top = Math.min(p.wide - 1, p.source + y);
                for (int x = Math.max(0, p.source - y); x <= top; x++) {
                    int cell = ROW * y + x;
                    rest[cell] = ground[cell];
                    if (y < last) {
                        onward[cell] = leastBelow(p, cell);
                        rest[cell] += rest[onward[cell]];
                    }
                }
            }
            int cell = p.source;
            total = rest[cell];
            for (int y = 0; y < last; y++) {
                course[y] = cell % ROW;
                cell = onward[cell];
            }
            course[last] = cell % ROW;
        }

        private int leastBelow(Plain p, int cell) {
            int x = cell % ROW;
            int below = cell + ROW;
            int best = x > 0 ? below - 1 : below;
            if (rest[below] < rest[best]) {
                best = below;
            }
            if (x + 1 < p.wide && rest[below + 1] < rest[best]) {
                best = below + 1;
            }
            return best;
        }

        int floods(Plain p, int n) {
            int came = 0;
            for (int i = 0; i < n && p.springs < SPRINGS_MOST; i++) {
                flood(p);
                came++;
            }
            return came;
        }

        int flood(Plain p) {
            for (int y = 0; y < p.high; y++) {
                for (int x = 0; x < p.wide; x++) {
                    int cell = ROW * y + x;
                    ground[cell] = p.heights[cell] + draw(p.ice + 1);
                }
            }
            run(p);
            int often = p.takeBed(course);
            p.earn();
            return often;
        }

        private int draw(int n) {
            seed = seed * 1103515245 + 12345;
            return n < 1 ? 0 : (seed >>> 8) % n;
        }
    }

    /** Reads a PLAIN; what may be told once is remembered while it reads. */
    private static final class PlainReader {
        private int wordsTold;
        private int pursesTold;
        private long landTold;
        private boolean cellTold;

        /** How many LINES, or NONE. */
        int readText(Tape t, Plain p) {
            p.reset();
            wordsTold = 0;
            pursesTold = 0;
            landTold = 0;
            cellTold = false;
            t.begin(PLAIN_MOST);
            for (int lines = 0; lines < PLAIN_MOST; lines++) {
                if (t.kind == END) {
                    return lines;
                }
                if (!readLine(t, p) || !t.sign(';')) {
                    return NONE;
                }
                t.step();
            }
            return NONE;
        }

        private boolean readLine(Tape t, Plain p) {
            switch (t.kind == WORD ? t.word : NONE) {
                case W_PLAIN:
                    return readSize(t, p);
                case W_LAND:
                    return readLand(t, p);
                case W_SOURCE:
                    return readSource(t, p);
                case W_FIELD:
                    return readField(t, p);
                case W_MILL:
                    return readMill(t, p);
                case W_PURSE:
                    return readPurse(t, p);
                case W_ICE:
                    return readIce(t, p);
                default:
                    return t.fails(1);
            }
        }

        /** Whether this is the first time that a word which may come once has come. */
        private boolean isFirst(int word) {
            boolean first = (wordsTold >> word & 1) == 0;
            wordsTold |= 1 << word;
            return first;
        }

        private boolean readSize(Tape t, Plain p) {
            if (cellTold || (wordsTold >> W_SOURCE & 1) == 1 || !isFirst(W_PLAIN)) {
                return t.fails(3);
            }
            if (!t.between(3, 6)) {
                return false;
            }
            p.wide = t.number;
            if (!t.between(2, 6)) {
                return false;
            }
            p.high = t.number;
            return true;
        }

        private boolean readSource(Tape t, Plain p) {
            if (!isFirst(W_SOURCE)) {
                return t.fails(3);
            }
            if (!t.between(0, p.wide - 1)) {
                return false;
            }
            p.source = t.number;
            return true;
        }

        private boolean readIce(Tape t, Plain p) {
            if (!isFirst(W_ICE)) {
                return t.fails(3);
            }
            if (!t.between(0, 5)) {
                return false;
            }
            p.ice = t.number;
            return true;
        }

        /** The cell, or NONE; the TOKEN is its Y then. */
        private int readCell(Tape t, Plain p) {
            if (!t.between(0, p.wide - 1)) {
                return NONE;
            }
            int x = t.number;
            if (!t.between(0, p.high - 1)) {
                return NONE;
            }
            cellTold = true;
            return p.cellAt(x, t.number);
        }

        private boolean readLand(Tape t, Plain p) {
            int cell = readCell(t, p);
            if (cell == NONE) {
                return false;
            }
            if ((landTold >> cell & 1) == 1) {
                return t.fails(3);
            }
            landTold |= 1L << cell;
            if (!t.between(0, HEIGHT_MOST)) {
                return false;
            }
            p.heights[cell] = t.number;
            return true;
        }

        /** The next TOKEN is a NAME that was not told yet. */
        private boolean readNewName(Tape t, Plain p) {
            t.step();
            if (!t.isName()) {
                return t.fails(1);
            }
            boolean known = indexOfName(p.fieldName, p.fields, t.name) != NONE
                || indexOfName(p.millName, p.mills, t.name) != NONE;
            return !known || t.fails(3);
        }

        private boolean readField(Tape t, Plain p) {
            int f = p.fields;
            if (f >= FIELDS_MOST) {
                return t.fails(4);
            }
            if (!readNewName(t, p)) {
                return false;
            }
            p.fieldName[f] = t.name;
            int cell = readCell(t, p);
            if (cell == NONE) {
                return false;
            }
            if (isTaken(p, cell)) {
                return t.fails(3);
            }
            if (!t.between(1, 20)) {
                return false;
            }
            p.fieldCell[f] = cell;
            p.worth[f] = t.number;
            p.changed[f] = 0;
            p.fields++;
            return true;
        }

        private static boolean isTaken(Plain p, int cell) {
            for (int f = 0; f < p.fields; f++) {
                if (p.fieldCell[f] == cell) {
                    return true;
                }
            }
            return false;
        }

        private boolean readMill(Tape t, Plain p) {
            int m = p.mills;
            if (m >= MILLS_MOST) {
                return t.fails(4);
            }
            if (!readNewName(t, p)) {
                return false;
            }
            p.millName[m] = t.name;
            int cell = readCell(t, p);
            if (cell == NONE) {
                return false;
            }
            p.millCell[m] = cell;
            p.rolled[m] = 0;
            p.mills++;
            return true;
        }

        private boolean readPurse(Tape t, Plain p) {
            t.step();
            if (!t.isWord(W_LEFT) && !t.isWord(W_RIGHT)) {
                return t.fails(1);
            }
            int side = t.word == W_LEFT ? LEFT : RIGHT;
            if ((pursesTold >> side & 1) == 1) {
                return t.fails(3);
            }
            pursesTold |= 1 << side;
            if (!t.between(0, 99)) {
                return false;
            }
            p.coin[side] = t.number;
            return true;
        }
    }

    /** A BOOK: read whole first, as a FAULT of its text comes ahead of what is WRONG. */
    private static final class Book {
        int why;
        private int lines;
        private final int[] verb = new int[LINES_MOST];
        private final int[] who = new int[LINES_MOST];
        private final int[] x = new int[LINES_MOST];
        private final int[] y = new int[LINES_MOST];

        boolean readText(Tape t, Plain p) {
            lines = 0;
            t.begin(BOOK_MOST);
            for (int i = 0; i <= LINES_MOST; i++) {
                if (t.kind == END) {
                    return true;
                }
                if (!readLine(t, p) || !t.sign(';')) {
                    return false;
                }
                lines++;
                t.step();
            }
            return false;
        }

        private boolean readLine(Tape t, Plain p) {
            int mill = t.isName() ? indexOfName(p.millName, p.mills, t.name) : NONE;
            if (t.isName() && mill == NONE) {
                return t.fails(3);
            }
            if (mill == NONE && !isBeginning(t)) {
                return t.fails(1);
            }
            if (lines >= LINES_MOST) {
                return t.fails(4);
            }
            verb[lines] = t.word;
            if (t.isWord(W_SPRING)) {
                return readOne(t, 0, 999);
            }
            if (t.isWord(W_YEARS)) {
                return readOne(t, 1, YEARS_MOST);
            }
            who[lines] = mill != NONE ? mill : t.word == W_LEFT ? LEFT : RIGHT;
            t.step();
            boolean due = mill != NONE ? t.isWord(W_ROLLS) : t.isWord(W_DIGS) || t.isWord(W_LAYS);
            return due ? readPlace(t) : t.fails(1);
        }

        private static boolean isBeginning(Tape t) {
            return t.isWord(W_LEFT) || t.isWord(W_RIGHT) || t.isWord(W_SPRING) || t.isWord(W_YEARS);
        }

        private boolean readOne(Tape t, int low, int top) {
            if (!t.between(low, top)) {
                return false;
            }
            x[lines] = t.number;
            return true;
        }

        private boolean readPlace(Tape t) {
            verb[lines] = t.word;
            if (!readOne(t, 0, ROW - 1) || !t.between(0, ROW - 1)) {
                return false;
            }
            y[lines] = t.number;
            return true;
        }

        /** Lives the LINES ahead of the one that is WRONG, and tells how many they are. */
        int live(Plain p, River river) {
            why = 0;
            for (int i = 0; i < lines; i++) {
                why = liveLine(p, river, i);
                if (why != 0) {
                    return i;
                }
            }
            return lines;
        }

        private int liveLine(Plain p, River river, int i) {
            switch (verb[i]) {
                case W_DIGS:
                    return liveWork(p, i, DITCH, 0);
                case W_LAYS:
                    return liveWork(p, i, STONE, 10);
                case W_ROLLS:
                    return liveRoll(p, i);
                default:
                    return liveSprings(p, river, i);
            }
        }

        private int liveWork(Plain p, int i, int change, int more) {
            int cell = p.cellAt(x[i], y[i]);
            if (cell == NONE) {
                return more + 9;
            }
            int whyNot = p.whyNoWork(who[i], cell, change);
            if (whyNot != 0) {
                return more + whyNot;
            }
            p.work(who[i], cell, change);
            return 0;
        }

        private int liveRoll(Plain p, int i) {
            int cell = p.cellAt(x[i], y[i]);
            if (cell == NONE) {
                return 49;
            }
            int whyNot = p.whyNoRoll(who[i], cell);
            if (whyNot != 0) {
                return 40 + whyNot;
            }
            p.rollTo(who[i], cell);
            return 0;
        }

        private int liveSprings(Plain p, River river, int i) {
            int n = verb[i] == W_SPRING ? 1 : x[i];
            if (p.springs + n > SPRINGS_MOST) {
                return 31;
            }
            river.seed = x[i];
            for (int k = 0; k < n; k++) {
                river.flood(p);
            }
            return 0;
        }
    }

    /** A SENTENCE, each join and 'not' behind what it is of, so that it is said of FIELDS without recursion. */
    private static final class Sentence {
        int size;
        int ones;
        private final int[] op = new int[2 * ONES_MOST];
        private final int[] arg = new int[2 * ONES_MOST];
        private final int[] sign = new int[2 * ONES_MOST];
        private final int[] masks = new int[ONES_MOST];

        void forget() {
            size = 0;
            ones = 0;
        }

        void copyOf(Sentence other) {
            size = other.size;
            ones = other.ones;
            System.arraycopy(other.op, 0, op, 0, op.length);
            System.arraycopy(other.arg, 0, arg, 0, arg.length);
            System.arraycopy(other.sign, 0, sign, 0, sign.length);
        }

        boolean readText(Tape t, Plain p) {
            forget();
            t.begin(SENTENCE_MOST);
            return readCond(t, p, 1) && (t.kind == END || t.fails(1));
        }

        private boolean put(int what, int of, int by) {
            if (size < op.length) {
                op[size] = what;
                arg[size] = of;
                sign[size] = by;
                size++;
            }
            return true;
        }

        private boolean readCond(Tape t, Plain p, int depth) {
            if (!readAll(t, p, depth)) {
                return false;
            }
            for (int i = 0; i < SENTENCE_MOST && t.isWord(W_OR); i++) {
                t.step();
                if (!readAll(t, p, depth)) {
                    return false;
                }
                put(W_OR, 0, 0);
            }
            return true;
        }

        private boolean readAll(Tape t, Plain p, int depth) {
            if (!readOne(t, p, depth)) {
                return false;
            }
            for (int i = 0; i < SENTENCE_MOST && t.isWord(W_AND); i++) {
                t.step();
                if (!readOne(t, p, depth)) {
                    return false;
                }
                put(W_AND, 0, 0);
            }
            return true;
        }

        /** Reads from its first TOKEN to the one behind it. */
        private boolean readOne(Tape t, Plain p, int depth) {
            if (!isBeginning(t)) {
                return t.fails(1);
            }
            if (ones >= ONES_MOST || depth > WITHIN_MOST) {
                return t.fails(4);
            }
            ones++;
            if (t.kind == '(') {
                return readBracket(t, p, depth);
            }
            if (t.word == W_NOT) {
                return readNot(t, p, depth);
            }
            boolean whole = readPlainOne(t, p);
            if (whole) {
                t.step();
            }
            return whole;
        }

        private boolean readBracket(Tape t, Plain p, int depth) {
            t.step();
            if (!readCond(t, p, depth + 1)) {
                return false;
            }
            if (t.kind != ')') {
                return t.fails(1);
            }
            t.step();
            return true;
        }

        private boolean readNot(Tape t, Plain p, int depth) {
            t.step();
            return readOne(t, p, depth + 1) && put(W_NOT, 0, 0);
        }

        private static boolean isBeginning(Tape t) {
            return t.kind == '(' || t.kind == WORD
                && (t.word == W_LEFT || t.word == W_RIGHT || t.word == W_NOT || t.word >= W_WET);
        }

        /** A ONE without others in it; the TOKEN is its last then. */
        private boolean readPlainOne(Tape t, Plain p) {
            int what = t.word;
            if (what == W_SAME || what == W_ABOVE) {
                t.step();
                if (!t.isName()) {
                    return t.fails(1);
                }
                int f = indexOfName(p.fieldName, p.fields, t.name);
                return f == NONE ? t.fails(3) : put(what, f, 0);
            }
            if (what >= W_WORTH) {
                t.step();
                int by = t.kind;
                if (by != '<' && by != '=' && by != '>') {
                    return t.fails(1);
                }
                t.step();
                return t.kind == NUMBER ? put(what, t.number, by) : t.fails(1);
            }
            return put(what, 0, 0);
        }

        /** FIELDS of which it may be said, as bits. */
        int fieldsSaid(Plain p) {
            int every = (1 << p.fields) - 1;
            int top = 0;
            for (int i = 0; i < size; i++) {
                if (op[i] == W_NOT) {
                    if (top > 0) {
                        masks[top - 1] = every & ~masks[top - 1];
                    }
                } else if (op[i] == W_AND || op[i] == W_OR) {
                    if (top > 1) {
                        top--;
                        int both = masks[top - 1] & masks[top];
                        masks[top - 1] = op[i] == W_AND ? both : masks[top - 1] | masks[top];
                    }
                } else if (top < masks.length) {
                    masks[top] = fieldsOfOne(p, i);
                    top++;
                }
            }
            return top == 1 ? masks[0] : 0;
        }

        private int fieldsOfOne(Plain p, int i) {
            int bits = 0;
            for (int f = 0; f < p.fields; f++) {
                if (isSo(p, f, i)) {
                    bits |= 1 << f;
                }
            }
            return bits;
        }

        private boolean isSo(Plain p, int f, int i) {
            int cell = p.fieldCell[f];
            int whose = bankBy(p.course, cell);
            switch (op[i]) {
                case W_LEFT:
                    return whose == LEFT;
                case W_RIGHT:
                    return whose == RIGHT;
                case W_WET:
                    return whose == WET;
                case W_NEAR:
                    return Math.abs(p.course[cell / ROW] - cell % ROW) == 1;
                case W_SAME:
                    return whose != WET && whose == bankBy(p.course, p.fieldCell[arg[i]]);
                case W_ABOVE:
                    return cell / ROW < p.fieldCell[arg[i]] / ROW;
                case W_WORTH:
                    return compares(p.worth[f], i);
                case W_HEIGHT:
                    return compares(p.heights[cell], i);
                case W_CHANGED:
                    return compares(p.changed[f], i);
                default:
                    return compares(f, i);
            }
        }

        private boolean compares(int value, int i) {
            if (sign[i] == '<') {
                return value < arg[i];
            }
            return sign[i] == '>' ? value > arg[i] : value == arg[i];
        }
    }

    /** What SIDES might do: TEMPTED, DUEL and PUSHED, and what was told of them last. A work is a cell; 36 more: a stone. */
    private static final class Plans {
        final int[] temptedCells = new int[3];
        int temptedSize;
        final int[] duelWorks = new int[2];
        boolean fought;
        final int[] pushedWorks = new int[2];
        int pushedSize;
        private final River river = new River();
        private final int[] works = new int[2 * CELLS];
        private int size;
        private final int[] picked = new int[3];
        private int goalField;
        private int goalSide;
        private int reply;
        private int best;

        /**
         * Where a SIDE may, coin left out. Only cells that some beds have and others have not: elsewhere a work moves
         * no bed, and all three plans take less work, or none, ahead of one that moves nothing.
         */
        private boolean may(Plain p, int side, int work) {
            int cell = work % CELLS;
            int x = cell % ROW;
            int y = cell / ROW;
            if (y < 1 || y >= p.high || x >= p.wide || Math.abs(x - p.source) > y) {
                return false;
            }
            if (bankBy(p.course, cell) == 1 - side) {
                return false;
            }
            return work < CELLS ? river.ground[cell] > 0 : river.ground[cell] < HEIGHT_MOST;
        }

        private void apply(int work) {
            river.ground[work % CELLS] += work < CELLS ? DITCH : STONE;
        }

        private void takeBack(int work) {
            river.ground[work % CELLS] -= work < CELLS ? DITCH : STONE;
        }

        private void listWorks(Plain p, int side, int from, int to) {
            size = 0;
            for (int work = from; work < to && size < works.length; work++) {
                if (may(p, side, work)) {
                    works[size] = work;
                    size++;
                }
            }
        }

        int tempt(Plain p, int f, int side, int change) {
            river.load(p);
            goalField = f;
            goalSide = side;
            listWorks(p, side, change == DITCH ? 0 : CELLS, change == DITCH ? CELLS : 2 * CELLS);
            for (int n = 0; n <= picked.length; n++) {
                if (tempts(this, p, 0, n, 0)) {
                    for (int i = 0; i < n; i++) {
                        temptedCells[i] = picked[i] % CELLS;
                    }
                    temptedSize = n;
                    return n;
                }
            }
            return NONE;
        }

        /** Picks works from the depth-th up to the n-th, the depth being 3 at most. */
        private static boolean tempts(Plans plans, Plain p, int depth, int n, int from) {
            if (depth >= n || depth >= plans.picked.length) {
                return plans.isTempted(p);
            }
            for (int i = from; i < plans.size; i++) {
                plans.picked[depth] = plans.works[i];
                plans.apply(plans.works[i]);
                boolean tempting = tempts(plans, p, depth + 1, n, i + 1);
                plans.takeBack(plans.works[i]);
                if (tempting) {
                    return true;
                }
            }
            return false;
        }

        private boolean isTempted(Plain p) {
            river.run(p);
            return bankBy(river.course, p.fieldCell[goalField]) == goalSide;
        }

        int fight(Plain p, int side) {
            river.load(p);
            fought = true;
            best = answered(p, side, NO_LEAD);
            duelWorks[0] = NO_WORK;
            duelWorks[1] = reply;
            for (int work = 0; work < 2 * CELLS && p.coin[side] > 0; work++) {
                if (may(p, side, work)) {
                    apply(work);
                    int value = answered(p, side, best);
                    takeBack(work);
                    if (value > best) {
                        best = value;
                        duelWorks[0] = work;
                        duelWorks[1] = reply;
                    }
                }
            }
            return best;
        }

        /** What is left to a SIDE by the other one's best reply; no better reply is looked for at or below a floor. */
        private int answered(Plain p, int side, int floor) {
            int other = 1 - side;
            int least = lead(p, side);
            reply = NO_WORK;
            for (int work = 0; work < 2 * CELLS && p.coin[other] > 0 && least > floor; work++) {
                if (may(p, other, work)) {
                    apply(work);
                    int value = lead(p, side);
                    takeBack(work);
                    if (value < least) {
                        least = value;
                        reply = work;
                    }
                }
            }
            return least;
        }

        private int lead(Plain p, int side) {
            river.run(p);
            return p.worthBy(river.course, side) - p.worthBy(river.course, 1 - side);
        }

        int push(Plain p, int side, int n) {
            river.load(p);
            listWorks(p, side, 0, 2 * CELLS);
            pushedSize = 0;
            river.run(p);
            best = p.worthBy(river.course, side);
            for (int i = 0; i < size && n >= 1; i++) {
                apply(works[i]);
                weigh(p, side, works[i], NO_WORK);
                takeBack(works[i]);
            }
            for (int i = 0; i < size && n >= 2; i++) {
                apply(works[i]);
                for (int j = i + 1; j < size; j++) {
                    if (works[j] != works[i] + CELLS) {
                        apply(works[j]);
                        weigh(p, side, works[i], works[j]);
                        takeBack(works[j]);
                    }
                }
                takeBack(works[i]);
            }
            return best;
        }

        private void weigh(Plain p, int side, int first, int second) {
            river.run(p);
            int value = p.worthBy(river.course, side);
            if (value > best) {
                best = value;
                pushedWorks[0] = first;
                pushedWorks[1] = second;
                pushedSize = second == NO_WORK ? 1 : 2;
            }
        }
    }

    /** Which beds there may have been, by who had what. */
    private static final class Bygone {
        final int[] first = new int[ROW];
        final int[] sureAt = new int[ROW];
        int rows;
        private final int[] low = new int[ROW];
        private final int[] top = new int[ROW];
        private final int[] ways = new int[CELLS];
        private final boolean[] reached = new boolean[CELLS];

        int findBeds(Tape t, Plain p) {
            if (!readPairs(t, p)) {
                return NONE;
            }
            int beds = countBeds(p);
            if (beds > 0) {
                rows = p.high;
                keepFirst(p);
                keepSure(p);
            }
            return beds;
        }

        /** Each pair narrows where the bed may be in a row. */
        private boolean readPairs(Tape t, Plain p) {
            if (t.size < 2 || t.size > 20 || t.size % 2 != 0) {
                return false;
            }
            for (int y = 0; y < ROW; y++) {
                low[y] = 0;
                top[y] = p.wide - 1;
            }
            for (int i = 0; i + 1 < t.size; i += 2) {
                int f = t.bytes[i];
                int whose = t.bytes[i + 1];
                if (f >= p.fields || whose > WET) {
                    return false;
                }
                int x = p.fieldCell[f] % ROW;
                int y = p.fieldCell[f] / ROW;
                if (whose != RIGHT) {
                    low[y] = Math.max(low[y], whose == LEFT ? x + 1 : x);
                }
                if (whose != LEFT) {
                    top[y] = Math.min(top[y], whose == RIGHT ? x - 1 : x);
                }
            }
            return true;
        }

        private int countBeds(Plain p) {
            int beds = 0;
            for (int y = p.high - 1; y >= 0; y--) {
                beds = 0;
                for (int x = 0; x < p.wide; x++) {
                    int cell = ROW * y + x;
                    ways[cell] = x < low[y] || x > top[y] ? 0 : waysOn(p, x, y);
                    beds += ways[cell];
                }
            }
            return beds;
        }

        private int waysOn(Plain p, int x, int y) {
            if (y == p.high - 1) {
                return 1;
            }
            int sum = 0;
            for (int next = Math.max(0, x - 1); next <= x + 1 && next < p.wide; next++) {
                sum += ways[ROW * (y + 1) + next];
            }
            return sum;
        }

        private void keepFirst(Plain p) {
            int from = 0;
            for (int y = 0; y < p.high; y++) {
                int x = from;
                while (x < p.wide - 1 && ways[ROW * y + x] == 0) {
                    x++;
                }
                first[y] = x;
                from = Math.max(0, x - 1);
            }
        }

        private void keepSure(Plain p) {
            for (int y = 0; y < p.high; y++) {
                int often = 0;
                for (int x = 0; x < p.wide; x++) {
                    int cell = ROW * y + x;
                    reached[cell] = ways[cell] > 0 && (y == 0 || isReached(p, x, y - 1));
                    if (reached[cell]) {
                        often++;
                        sureAt[y] = x;
                    }
                }
                if (often != 1) {
                    sureAt[y] = NONE;
                }
            }
        }

        private boolean isReached(Plain p, int x, int above) {
            for (int from = Math.max(0, x - 1); from <= x + 1 && from < p.wide; from++) {
                if (reached[ROW * above + from]) {
                    return true;
                }
            }
            return false;
        }
    }

    /** The latest DEED. */
    private static final class Deed {
        final int[] bytes = new int[32];
        int size;

        void write(Plain p, int f) {
            size = 0;
            int cell = p.fieldCell[f];
            int whose = bankBy(p.course, cell);
            putName(p.fieldName[f]);
            putText(whose == LEFT ? " is left" : whose == RIGHT ? " is right" : " is wet");
            putText(" at ");
            put('0' + cell % ROW);
            put(' ');
            put('0' + cell / ROW);
        }

        private void put(int c) {
            if (size < bytes.length) {
                bytes[size] = c;
                size++;
            }
        }

        private void putText(String text) {
            for (int i = 0; i < text.length(); i++) {
                put(text.charAt(i));
            }
        }

        private void putName(long name) {
            for (int i = LETTERS_MOST - 1; i >= 0; i--) {
                int letter = (int) (name >> LETTER_BITS * i & 31);
                if (letter > 0) {
                    put('a' + letter - 1);
                }
            }
        }
    }

    /** How all was ahead of the latest acts, in a ring. */
    private static final class History {
        int size;
        private int top;
        private final Plain[] ahead = new Plain[KEPT];

        History() {
            for (int i = 0; i < KEPT; i++) {
                ahead[i] = new Plain();
            }
        }

        void forget() {
            size = 0;
        }

        void keep(Plain p) {
            ahead[top].copyOf(p);
            top = (top + 1) % KEPT;
            size = Math.min(KEPT, size + 1);
        }

        void takeBack(Plain p) {
            if (size > 0) {
                top = (top + KEPT - 1) % KEPT;
                size--;
                p.copyOf(ahead[top]);
            }
        }
    }

    /** What image() keeps in one place. */
    private static final class Image {
        final Plain plain = new Plain();
        final Sentence saying = new Sentence();
        boolean kept;
    }
}
