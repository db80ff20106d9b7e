/** What every test here needs: answers counted as due or not, and texts fed to the tape. */
final class Check {
    private static int wrong = 0;
    private static int asked = 0;

    private Check() {
    }

    static void due(String call, long got, long want) {
        asked++;
        if (got != want) {
            wrong++;
            if (wrong <= 40) {
                System.out.println(call + " answered " + got + ", due is " + want);
            }
        }
    }

    static void due(String call, boolean got, boolean want) {
        due(call, got ? 1 : 0, want ? 1 : 0);
    }

    static void dueText(String call, String got, String want) {
        asked++;
        if (!got.equals(want)) {
            wrong++;
            System.out.println(call + " answered \"" + got + "\", due is \"" + want + "\"");
        }
    }

    static boolean anyWrong() {
        return wrong > 0;
    }

    /** To be called last by each main. */
    static void end(String test) {
        System.out.println(test + ": " + asked + " answers, " + wrong + " not as due");
        if (wrong > 0 || asked == 0) {
            System.exit(1);
        }
    }

    static int fourBytes(int[] bytes, int from) {
        int four = 0;
        for (int i = 0; i < 4; i++) {
            four = four << 8 | (from + i < bytes.length ? bytes[from + i] & 255 : 0);
        }
        return four;
    }

    static int[] bytesOf(String text) {
        int[] bytes = new int[text.length()];
        for (int i = 0; i < bytes.length; i++) {
            bytes[i] = text.charAt(i) & 255;
        }
        return bytes;
    }

    /** The tape is these bytes alone. */
    static void tape(BanksDealt b, int... bytes) {
        b.end(0);
        for (int from = 0; from < bytes.length; from += 20) {
            b.feed(fourBytes(bytes, from), fourBytes(bytes, from + 4), fourBytes(bytes, from + 8),
                fourBytes(bytes, from + 12), fourBytes(bytes, from + 16));
        }
        due("end(" + bytes.length + ")", b.end(bytes.length), true);
    }

    static int plain(BanksDealt b, String text) {
        tape(b, bytesOf(text));
        return b.plain();
    }

    static int book(BanksDealt b, int lives, String text) {
        tape(b, bytesOf(text));
        return b.book(lives);
    }

    static int sentence(BanksDealt b, String text) {
        tape(b, bytesOf(text));
        return b.sentence();
    }

    static BanksDealt on(String text) {
        BanksDealt b = new BanksDealt();
        int lines = plain(b, text);
        if (lines < 0) {
            due("plain() of " + text, lines, 0);
        }
        return b;
    }

    static void plainFault(String text, int kind, int place) {
        BanksDealt b = new BanksDealt();
        due("plain() of '" + shown(text) + "'", plain(b, text), -1 - place);
        due("fault() of '" + shown(text) + "'", b.fault(), kind);
        due("tape after a FAULT", b.count(6), 0);
    }

    static void bookFault(BanksDealt b, String text, int kind, int place) {
        due("book() of '" + shown(text) + "'", book(b, 1, text), -2 - place);
        due("fault() of '" + shown(text) + "'", b.fault(), kind);
        due("tape after a FAULT", b.count(6), 0);
    }

    static void sentenceFault(BanksDealt b, String text, int kind, int place) {
        due("sentence() of '" + shown(text) + "'", sentence(b, text), -1 - place);
        due("fault() of '" + shown(text) + "'", b.fault(), kind);
        due("tape after a FAULT", b.count(6), 0);
    }

    private static String shown(String text) {
        return text.length() > 120 ? text.substring(0, 50) + " .. " + text.substring(text.length() - 60) : text;
    }

    static String repeat(String s, int n) {
        return s.repeat(n);
    }

    static String deedOf(BanksDealt b, int f) {
        StringBuilder text = new StringBuilder();
        int n = b.deed(f);
        for (int i = 0; i < n; i++) {
            text.append((char) b.byteAt(i));
        }
        due("byteAt behind the DEED", b.byteAt(n), -1);
        return text.toString();
    }

    static void throwsNone(String call, boolean thrown) {
        due(call + " throws NoSuchElementException", thrown, true);
    }

    static boolean fieldThrows(BanksDealt b, int f, int what) {
        try {
            b.field(f, what);
            return false;
        } catch (java.util.NoSuchElementException e) {
            return true;
        }
    }

    static boolean duelThrows(BanksDealt b, int s) {
        try {
            b.duel(s);
            return false;
        } catch (java.util.NoSuchElementException e) {
            return true;
        }
    }
}
