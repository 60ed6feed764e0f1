import java.io.IOException;
import java.nio.file.Files;
import java.nio.file.Path;
import java.util.ArrayList;
import java.util.LinkedHashMap;
import java.util.List;
import java.util.Map;

/** Tests that each quote the words of the document that they hold the program to. */
class Edges {
    static final int NONE = -1;
    static final int BAD = -2;
    static final int OTHER = -3;
    static final int NOTHING = -4;
    static final int STUCK = -5;
    static final int FULL = -6;
    static final int LEAST = Integer.MIN_VALUE;
    static final int MOST = Integer.MAX_VALUE;
    static final int[] NO_SHELVES = {-1, 8, LEAST, MOST};
    static final int[] NO_AXES = {-1, 3, LEAST, MOST};
    static final int[] NO_WAY_SETS = {-1, 64, LEAST, MOST};

    interface Check { void run(); }
    interface Call { long on(MouldThatComesOff x); }
    interface Maker { MouldThatComesOff make(); }

    private static final Map<String, List<String>> QUOTES = new LinkedHashMap<>();
    private static String heading = "";
    private static String words = "";
    private static int tests = 0;
    private static int answers = 0;
    private static int wrong = 0;

    /** What follows quotes the part of the document under this heading. */
    static void under(String title) {
        heading = title;
        QUOTES.computeIfAbsent(title, t -> new ArrayList<>());
    }

    static void edge(String quoted, Check check) {
        words = quoted;
        QUOTES.get(heading).add(quoted);
        tests++;
        int before = answers;
        check.run();
        if (answers == before) fault("no answer was looked at");
    }

    private static void fault(String what) {
        wrong++;
        System.out.println(heading + ", \"" + words + "\": " + what);
    }

    static void due(String call, long got, long want) {
        answers++;
        if (got != want) fault(call + " answered " + got + ", due is " + want);
    }

    // ---- what tests begin with ----

    static MouldThatComesOff fresh() { return new MouldThatComesOff(); }

    static MouldThatComesOff sized(int n) {
        MouldThatComesOff x = fresh();
        x.size(n);
        return x;
    }

    static MouldThatComesOff formed(int n, long figure) {
        MouldThatComesOff x = sized(n);
        x.solid(figure, true);
        return x;
    }

    static long bits(int... cubes) {
        long set = 0;
        for (int c : cubes) set |= 1L << c;
        return set;
    }

    static long all(int n) { return n == 4 ? -1L : (1L << n * n * n) - 1; }

    static void feedText(MouldThatComesOff x, String text) {
        for (int k = 0; k < text.length(); k += 4) {
            int n = Math.min(4, text.length() - k);
            int v = 0;
            for (int q = 0; q < n; q++) v = v << 8 | text.charAt(k + q);
            x.feed(v, n);
        }
    }

    static int readText(MouldThatComesOff x, String text) {
        feedText(x, text);
        return x.read();
    }

    /** A text that is no FIGURE, and the place where that shows. */
    static void faulty(String text, int place) {
        due("read() of '" + text + "'", readText(fresh(), text), -20 - place);
    }

    /** A ring of solid cubes in the middle layer of 3; PIECES: a lid below, a lid above, a pin in the ring. */
    static MouldThatComesOff lids() {
        MouldThatComesOff x = formed(3, 253440L);
        x.piece(511L);
        x.piece(511L << 18);
        x.piece(bits(13));
        return x;
    }

    /** SHELVES: 0 STRAIGHT by z more, 1 ints, 2 NOTHING, 3 longs, 4 FAR, 5 HALF; the lid above is OFF; an unlike image is kept. */
    static MouldThatComesOff rich() {
        MouldThatComesOff x = fresh();
        x.size(2);
        x.solid(5L, true);
        x.piece(10L);
        x.ask(0, 3, 6);
        x.image();
        x.size(3);
        x.solid(253440L, true);
        x.piece(511L);
        x.piece(511L << 18);
        x.piece(bits(13));
        x.ask(0, 5, 4);
        x.ask(1, 0, 33);
        x.ask(2, 0, 44);
        x.move(0, 1, 4, 0);
        x.step();
        x.row(1, 2, 5);
        x.set(1, 4, -7);
        x.row(3, 3, 5);
        x.set(3, 0, Long.MIN_VALUE);
        x.move(4, 5, 2, 4);
        x.move(5, 4, 0, 1);
        feedText(x, "wear 7");
        return x;
    }

    static MouldThatComesOff withPieces(MouldThatComesOff x, int count) {
        while (x.status(2) < count) x.piece(0);
        return x;
    }

    // ---- refusals ----

    /** The call is refused by its number, and of all that can be told nothing but how many there were has changed. */
    static void refuses(String call, int code, Maker maker, Call made) {
        MouldThatComesOff x = maker.make();
        due(call, made.on(x), code);
        List<Long> now = told(x);
        List<Long> want = told(maker.make());
        want.set(-2 - code, want.get(-2 - code) + 1);
        unchanged(call, now, want);
    }

    static void refuses(String call, int code, Call made) {
        refuses(call, code, Edges::rich, made);
    }

    private static void unchanged(String call, List<Long> now, List<Long> want) {
        due("how much can be told behind " + call, now.size(), want.size());
        for (int k = 0; k < Math.min(now.size(), want.size()); k++) {
            due("telling " + k + " behind " + call, now.get(k), want.get(k));
        }
    }

    /** All that can be told of an object, which is not the same behind it. */
    static List<Long> told(MouldThatComesOff x) {
        List<Long> r = new ArrayList<>();
        for (int what = 12; what <= 16; what++) r.add((long) x.status(what));
        tellMould(x, r);
        for (int s = 0; s < 8; s++) tellShelf(x, s, r);
        int n = x.status(0);
        for (int c = 0; c < n * n * n; c++) r.add((long) x.ask(0, c, 1));
        r.add((long) x.read());
        r.add((long) x.status(5));
        r.add((long) x.back());
        tellMould(x, r);
        return r;
    }

    private static void tellMould(MouldThatComesOff x, List<Long> r) {
        for (int what = 0; what <= 7; what++) r.add((long) x.status(what));
        r.add(x.cubes(0));
        r.add(x.cubes(3));
        for (int p = 0; p < 8; p++) r.add(x.setOf(p));
        for (int p = 0; p < 8; p++) r.add((long) x.loose(p));
    }

    private static void tellShelf(MouldThatComesOff x, int s, List<Long> r) {
        int holds = x.holds(s);
        r.add((long) holds);
        if (holds > 10) {
            r.add((long) x.says(s, 0));
            r.add((long) x.says(s, 2));
        } else if (holds >= 0) {
            for (int i = 0; i < 12; i++) r.add(x.element(s, i));
        }
    }

    // ---- the document ----

    /** Each quote stands under its heading, and nothing stands there that no test quotes. */
    static void compareWith(Path document) throws IOException {
        Map<String, String> sections = sectionsOf(Files.readString(document));
        for (Map.Entry<String, List<String>> e : QUOTES.entrySet()) {
            heading = e.getKey();
            String left = sections.getOrDefault(heading, "");
            for (String quoted : e.getValue()) {
                words = quoted;
                if (!sections.getOrDefault(heading, "").contains(quoted)) fault("the document has no such words");
                int at = left.indexOf(quoted);
                if (at >= 0) left = left.substring(0, at) + "#" + left.substring(at + quoted.length());
            }
            words = left.replaceAll("#[^A-Za-z0-9]*", "# ").trim();
            boolean whole = heading.equals("Terms") || heading.startsWith("Promise");
            if (whole && words.matches("(?s).*[A-Za-z0-9].*")) fault("words without a test");
        }
        for (String title : sections.keySet()) {
            heading = title;
            words = "";
            if (title.startsWith("Promise") && !QUOTES.containsKey(title)) fault("no test");
        }
    }

    private static Map<String, String> sectionsOf(String text) {
        Map<String, String> r = new LinkedHashMap<>();
        for (String part : text.split("(?m)^## ")) {
            int end = part.indexOf('\n');
            if (end < 0) continue;
            String body = part.substring(end).replaceAll("(?m)^(```.*|====.*|THE BLOCK)$", "").replaceAll("\\s+", " ").trim();
            r.put(part.substring(0, end).trim(), body.replaceFirst("^`[^`]*`: ", ""));
        }
        return r;
    }

    static void finish() {
        System.out.println(tests + " sentences, " + answers + " answers looked at, " + wrong + " faults");
        if (wrong != 0) System.exit(1);
    }
}
