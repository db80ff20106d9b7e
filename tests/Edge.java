import java.io.IOException;
import java.lang.reflect.InvocationTargetException;
import java.lang.reflect.Method;
import java.nio.file.Files;
import java.nio.file.Path;
import java.util.ArrayList;
import java.util.Arrays;
import java.util.BitSet;
import java.util.HashSet;
import java.util.LinkedHashMap;
import java.util.List;
import java.util.Map;
import java.util.NoSuchElementException;
import java.util.Set;
import java.util.TreeMap;
import java.util.TreeSet;
import java.util.regex.Matcher;
import java.util.regex.Pattern;

/**
 * An object that is held to the words of the document which name a boundary. Its calls are told as texts ("dig 0 1 2";
 * MIN and MAX are the least and the most int) and kept, so that twins can be led to the same place: behind a refused
 * call a twin must answer all that can be asked, undone and restored as one that was never refused anything.
 */
final class Edge {
    static final long NONE = -1;
    /** The answer of a call that throws NoSuchElementException. */
    static final long THROWS = Long.MIN_VALUE;

    private static final int CALLS_MOST = 512;
    private static final Map<String, Method> METHODS = new TreeMap<>();
    private static final Set<String> CHANGING = new HashSet<>(Arrays.asList("feed", "end", "plain", "dig", "lay", "roll",
        "spring", "years", "undo", "tempted", "duel", "pushed", "ran", "deed", "book", "sentence", "image", "restore"));
    private static final List<String> QUESTIONS = questions();
    private static final List<String> SHORT = shortQuestions();
    private static final Set<String> PARTS = new TreeSet<>();
    private static String document;
    private static final BitSet quotes = new BitSet();
    private static String words = "";
    private static int answersOfWords = 1;

    private final BanksDealt b = new BanksDealt();
    private final List<String> way = new ArrayList<>();
    private int calls;

    /** The words that what comes next holds the class to; they must stand so in that part of the document. */
    static void by(String part, String quoted) {
        heldToSomething();
        answersOfWords = 0;
        words = part + ", \"" + quoted + "\": ";
        PARTS.add(part);
        int at = partOf(part).indexOf(quoted);
        Check.due(words + "stands in the document", at >= 0, true);
        if (at >= 0) {
            quotes.set(beginOf(part) + at, beginOf(part) + at + quoted.length());
        }
    }

    private static void heldToSomething() {
        Check.due(words + "the class is held to nothing by it", answersOfWords == 0, false);
    }

    private static int beginOf(String part) {
        String from = part.startsWith("Promise") ? "## " + part + ": " : part.equals("Terms") ? "## Terms" : part;
        return text().indexOf(" " + from);
    }

    private static String partOf(String part) {
        int begin = beginOf(part);
        if (begin < 0) {
            return "";
        }
        int end = text().indexOf(" ## ", begin + 1);
        int head = text().indexOf(" ==== ", begin + 1);
        return text().substring(begin, head >= 0 && head < end ? head : end);
    }

    private static String text() {
        if (document == null) {
            try {
                document = " " + Files.readString(Path.of("../shared/DOC.md")).replaceAll("\\s+", " ") + " ## ";
            } catch (IOException e) {
                throw new IllegalStateException("../shared/DOC.md can't be read", e);
            }
        }
        return document;
    }

    /** To be called last: each promise, the terms and both heads have been held to some of their words. */
    static void everyPart() {
        heldToSomething();
        for (int promise = 1; promise <= 43; promise++) {
            Check.due("Promise " + promise + " has edges", PARTS.contains("Promise " + promise), true);
        }
        for (String part : new String[] {"Terms", "==== 2.", "==== 3."}) {
            Check.due(part + " has edges", PARTS.contains(part), true);
        }
        everyWord();
    }

    /** From the first line to the last each word was quoted, but for what tells nothing that could be tested here. */
    private static void everyWord() {
        Matcher passed = Pattern.compile("# BanksDealt ## What it is .*? ==== 1\\. |; what later calls answer"
            + " is free| ## The public face .*?(?= ## )| ## Terms|## Promise \\d+: .*?`[^`]*`:|```(text)?|==== [23]\\."
            + "|## Not promised .*").matcher(text());
        while (passed.find()) {
            quotes.set(passed.start(), passed.end());
        }
        Matcher word = Pattern.compile("[A-Za-z0-9]+").matcher(text());
        while (word.find()) {
            boolean quoted = quotes.nextClearBit(word.start()) >= word.end();
            String where = text().substring(Math.max(0, word.start() - 40), Math.min(text().length(), word.end() + 10));
            Check.due("'" + word.group() + "' of '" + where + "' is tested", quoted, true);
        }
    }

    /** An answer that is not of one call. */
    static void that(String what, long got, long want) {
        answersOfWords++;
        Check.due(words + what, got, want);
    }

    static Edge on(String plain) {
        Edge e = new Edge().tape(plain);
        e.calling("plain");
        long fault = e.calling("fault");
        if (fault != 0) {
            that("a PLAIN without a FAULT: " + plain, fault, 0);
        }
        return e;
    }

    /** On a new object, where a FAULT need not leave anything as it was. */
    static void reads(String plain, int lines) {
        new Edge().tape(plain).due("plain", lines).due("fault", 0);
    }

    static void faulty(String plain, int kind, int place) {
        new Edge().tape(plain).due("plain", -1 - place).due("fault", kind).due("count 6", 0);
    }

    Edge tape(String bytes) {
        return tape(Check.bytesOf(bytes));
    }

    Edge tape(int... bytes) {
        calling("end 0");
        for (int i = 0; i < bytes.length; i += 20) {
            StringBuilder feed = new StringBuilder("feed");
            for (int k = 0; k < 20; k += 4) {
                feed.append(' ').append(Check.fourBytes(bytes, i + k));
            }
            calling(feed.toString());
        }
        calling("end " + bytes.length);
        return this;
    }

    Edge due(String call, long want) {
        that(call, calling(call), want);
        return this;
    }

    /** The tape is this text alone, and then comes the call. */
    Edge text(String call, String text, long want) {
        tape(text);
        that(call + " of '" + shown(text) + "'", calling(call), want);
        return this;
    }

    /** A call that is refused: its answer, and all else stays as it was. */
    Edge refused(String call, long want) {
        Map<String, Long> before = whole(way);
        due(call, want);
        // A question is not kept on the way, but a refused one is asked of the twins as well.
        alike(call, before, whole(isChanging(call) ? way : with(way, call)));
        return this;
    }

    private static boolean isChanging(String call) {
        return CHANGING.contains(call.split(" ")[0]);
    }

    /** Refused one below the least and one above the most of each argument and far outside, the others as in the call. */
    Edge outside(String call, long want, int... bounds) {
        String[] parts = call.split(" ");
        for (int i = 1; i < parts.length; i++) {
            long low = bounds[2 * i - 2];
            long high = bounds[2 * i - 1];
            for (long bad : new long[] {low - 1, high + 1, Integer.MIN_VALUE, Integer.MAX_VALUE}) {
                if (bad == (int) bad && (bad < low || bad > high)) {
                    String[] asked = parts.clone();
                    asked[i] = String.valueOf(bad);
                    refused(String.join(" ", asked), want);
                }
            }
        }
        return this;
    }

    /** A text with a FAULT: its kind and place, the tape empty, and all else as it was. */
    Edge fault(String call, String text, int kind, int place) {
        Map<String, Long> before = whole(way);
        text(call, text, (call.startsWith("book") ? -2 : -1) - place);
        due("fault", kind);
        due("count 6", 0);
        alike(call + " of '" + shown(text) + "'", without(before, "fault"), without(whole(way), "fault"));
        return this;
    }

    /** A call by which, of all that can be asked, only what names one of these may have changed. */
    Edge changing(String call, long want, String... what) {
        Map<String, Long> before = whole(way);
        due(call, want);
        alike(call, without(before, what), without(whole(way), what));
        return this;
    }

    /** All that can be asked is here as it is there, but for what names one of these. */
    Edge same(Edge there, String... what) {
        alike("all that was called", without(whole(there.way), what), without(whole(way), what));
        return this;
    }

    private static Map<String, Long> without(Map<String, Long> all, String... what) {
        for (String w : what) {
            all.keySet().removeIf(question -> question.contains(w));
        }
        return all;
    }

    /** X of the BED, row by row, as one number. */
    Edge bed(long want) {
        long all = 0;
        for (int y = 0; y < calling("count 2"); y++) {
            all = 10 * all + calling("bed " + y);
        }
        that("the BED", all, want);
        return this;
    }

    Edge deed(int f, String want) {
        due("deed " + f, want.length());
        StringBuilder text = new StringBuilder();
        for (int i = 0; i < want.length(); i++) {
            text.append((char) calling("byteAt " + i));
        }
        answersOfWords++;
        Check.dueText(words + "the DEED", text.toString(), want);
        return due("byteAt " + want.length(), NONE);
    }

    /** Which FIELDS it may be said of. */
    Edge says(String sentence, int... fields) {
        tape(sentence);
        that("ONES of '" + sentence + "' above 0", calling("sentence") > 0 ? 1 : 0, 1);
        due("said -1", fields.length);
        for (int k = 0; k < fields.length; k++) {
            due("said " + k, fields[k]);
        }
        return due("said " + fields.length, NONE);
    }

    /** The answer, for what is due by itself elsewhere. */
    long ask(String call) {
        return calling(call);
    }

    /** A call whose answer is due elsewhere. */
    Edge led(String call) {
        calling(call);
        return this;
    }

    private long calling(String call) {
        calls++;
        if (calls == CALLS_MOST + 1) {
            that("an object is used for at most 512 calls", calls, CALLS_MOST);
        }
        if (isChanging(call)) {
            way.add(call);
        }
        return answer(b, call);
    }

    private static long answer(BanksDealt b, String call) {
        String[] parts = call.split(" ");
        Object[] args = new Object[parts.length - 1];
        for (int i = 0; i < args.length; i++) {
            String n = parts[i + 1];
            args[i] = n.equals("MIN") ? Integer.MIN_VALUE : n.equals("MAX") ? Integer.MAX_VALUE : Integer.parseInt(n);
        }
        try {
            Object got = method(parts[0]).invoke(b, args);
            return got instanceof Boolean ? (Boolean) got ? 1 : 0 : (Integer) got;
        } catch (InvocationTargetException e) {
            if (e.getCause() instanceof NoSuchElementException) {
                return THROWS;
            }
            throw new IllegalStateException(call + " throws", e.getCause());
        } catch (IllegalAccessException e) {
            throw new IllegalStateException(call, e);
        }
    }

    private static Method method(String name) {
        if (METHODS.isEmpty()) {
            for (Method m : BanksDealt.class.getMethods()) {
                METHODS.put(m.getName(), m);
            }
        }
        return METHODS.get(name);
    }

    private static String shown(String text) {
        return text.length() > 100 ? text.substring(0, 40) + " .. " + text.substring(text.length() - 50) : text;
    }

    private static void alike(String call, Map<String, Long> before, Map<String, Long> after) {
        for (String question : before.keySet()) {
            if (!before.get(question).equals(after.get(question))) {
                that(question + " behind " + call, after.get(question), before.get(question));
                return;
            }
        }
        that("as many questions behind " + call, after.size(), before.size());
    }

    /** All that can be asked of an object led this way, of twins so that none of them is called too often. */
    private static Map<String, Long> whole(List<String> way) {
        Map<String, Long> all = new LinkedHashMap<>();
        ask(all, way, "", QUESTIONS);
        for (int k = 0; k < 2; k++) {
            ask(all, with(way, "restore " + k), "behind restore " + k + ": ", SHORT);
        }
        List<String> back = way;
        for (int k = 1; k <= 9; k++) {
            back = with(back, "undo");
            ask(all, back, "behind " + k + " undone: ", SHORT);
        }
        ask(all, with(way, "sentence"), "the tape as a SENTENCE: ", List.of("fault", "said -1", "said 0"));
        return all;
    }

    private static List<String> with(List<String> way, String call) {
        List<String> longer = new ArrayList<>(way);
        longer.add(call);
        return longer;
    }

    private static void ask(Map<String, Long> all, List<String> way, String where, List<String> questions) {
        int each = CALLS_MOST - way.size();
        that("twins can be asked", each > 0 ? 1 : 0, 1);
        for (int from = 0; from < questions.size() && each > 0; from += each) {
            BanksDealt twin = new BanksDealt();
            long last = 0;
            for (String call : way) {
                last = answer(twin, call);
            }
            if (!where.isEmpty()) {
                all.put(where + "the answer", last);
            }
            for (int i = from; i < Math.min(questions.size(), from + each); i++) {
                all.put(where + questions.get(i), answer(twin, questions.get(i)));
            }
        }
    }

    private static void add(List<String> all, String name, int low, int high) {
        for (int i = low; i <= high; i++) {
            all.add(name + " " + i);
        }
    }

    private static List<String> shortQuestions() {
        List<String> all = new ArrayList<>();
        for (int y = 0; y < 6; y++) {
            add(all, "height", y, 0, 5);
        }
        add(all, "bed", 0, 5);
        add(all, "now", 0, 4);
        add(all, "count", 0, 6);
        add(all, "said", -1, 2);
        for (int k = 0; k < 3; k++) {
            add(all, "mill " + k, 0, 3);
            add(all, "side " + k, 0, 3);
        }
        for (int f = 0; f < 10; f++) {
            add(all, "field " + f, 0, 4);
        }
        for (int k = 1; k <= 8; k++) {
            all.add("ago " + k + " 1");
        }
        return all;
    }

    private static void add(List<String> all, String name, int y, int low, int high) {
        for (int x = low; x <= high; x++) {
            all.add(name + " " + x + " " + y);
        }
    }

    private static List<String> questions() {
        List<String> all = new ArrayList<>(shortQuestions());
        all.add("fault");
        all.add("would");
        for (int y = -1; y <= 6; y++) {
            add(all, "bank", y, -1, 6);
        }
        for (String name : new String[] {"wouldAt", "wouldBe", "temptedAt", "duelAt", "pushedAt", "ranAt", "sure", "told"}) {
            add(all, name, -1, 6);
        }
        add(all, "richest", -1, 2);
        add(all, "byteAt", -1, 31);
        add(all, "said", 3, 10);
        for (int k = 1; k <= 8; k++) {
            add(all, "ago " + k, 0, 5);
        }
        return all;
    }
}
