import java.util.ArrayList;
import java.util.List;

/** Long runs of calls by a fixed seed, each answer compared with that of a slow model written cube by cube. */
public final class ModelTest {
    private static long seed;
    private static int wrong = 0;
    private static long calls = 0;

    public static void main(String[] args) {
        int runs = args.length > 0 ? Integer.parseInt(args[0]) : 4000;
        for (int run = 0; run < runs && wrong < 20; run++) {
            seed = 0x9E3779B97F4A7C15L * (run + 1);
            oneRun(run);
        }
        System.out.println(calls + " calls compared, " + wrong + " answers are not as due");
        if (wrong != 0) System.exit(1);
    }

    private static void oneRun(int run) {
        MouldThatComesOff x = new MouldThatComesOff();
        Model m = new Model();
        int length = 40 + below(400);
        int style = below(4);
        List<String> log = new ArrayList<>();
        // one turn may be some sixty calls (a text that is fed), and an object is promised for 512
        for (int k = 0; k < length && log.size() < 440; k++) {
            if (!oneCall(x, m, style, log)) {
                wrong++;
                System.out.println("run " + run + ", call " + k + ": " + log.get(log.size() - 1));
                return;
            }
        }
    }

    // ---- arguments ----

    private static int below(int n) {
        seed ^= seed << 13;
        seed ^= seed >>> 7;
        seed ^= seed << 17;
        return (int) ((seed >>> 20) % n);
    }

    private static long bits() {
        long a = 0;
        for (int k = 0; k < 8; k++) a = a << 8 | below(256);
        return a;
    }

    /** A number of 0 to n less 1, at times one beyond. */
    private static int about(int n) {
        int d = below(40);
        if (d == 0) return -1;
        if (d == 1) return n;
        if (d == 2) return below(2) == 0 ? Integer.MIN_VALUE : Integer.MAX_VALUE;
        return below(Math.max(1, n));
    }

    private static long someSet(Model m) {
        switch (below(9)) {
            case 0: return bits();
            case 1: return bits() & bits() & bits();
            case 2: return 1L << below(64);
            case 3: return 0L;
            case 4: return -1L;
            case 5: return m.cubes(1);
            case 6: { int a = below(m.count()), b = below(m.count()); return m.box(a, b); }
            case 7: { int a = below(m.count()), b = below(m.count()); return m.box(a, b) & ~m.figureBits(); }
            default: return 1L << below(m.count());
        }
    }

    private static String someText(Model m) {
        StringBuilder t = new StringBuilder();
        int n = 1 + below(6);
        int cubes = m.count();
        for (int k = 0; k < n; k++) {
            if (k > 0) t.append(below(12) == 0 ? " " : ";");
            for (int q = below(3); q > 0; q--) t.append(' ');
            switch (below(11)) {
                case 0: { int size = 2 + below(3); t.append("size ").append(below(12) == 0 ? below(9) : size); cubes = size * size * size; break; }
                case 1: case 2: t.append("box ").append(about(cubes)).append(" to ").append(about(cubes)); break;
                case 3: t.append("cut").append(below(cubes)).append("to").append(below(cubes)); break;
                case 4: case 5: t.append("piece"); break;
                case 6: case 7: t.append("fill ").append(below(cubes)).append(" to ").append(below(cubes)); break;
                case 8: t.append("shows ").append(below(cubes)).append(' ').append(below(11)); break;
                case 9: t.append("heavy ").append(below(30) == 0 ? "0004" : below(67)); break;
                default: t.append("wear ").append(below(1100)); break;
            }
        }
        if (below(4) == 0) t.append(' ');
        if (below(4) == 0 && t.length() > 0) {
            int at = below(t.length());
            switch (below(3)) {
                case 0: t.deleteCharAt(at); break;
                case 1: t.setCharAt(at, (char) below(256)); break;
                default: t.insert(at, "a5; tox0".charAt(below(8))); break;
            }
        }
        if (below(12) == 0) t.setLength(below(t.length() + 1));
        return t.toString();
    }

    // ---- one call ----

    private static boolean same(List<String> log, String call, long got, long want) {
        calls++;
        log.add(call + " answered " + got + ", due is " + want);
        return got == want;
    }

    private static boolean feedText(MouldThatComesOff x, Model m, List<String> log) {
        String t = someText(m);
        int k = 0;
        while (k < t.length()) {
            int n = Math.min(4, t.length() - k);
            int v = below(4) == 0 ? below(1000) : 0;
            for (int q = 0; q < n; q++) v = v << 8 | t.charAt(k + q);
            if (!same(log, "feed(" + v + ", " + n + ")", x.feed(v, n), m.feed(v, n))) return false;
            k += n;
        }
        if (below(10) == 0) return true;
        String tape = m.tapeText();
        return same(log, "read() of '" + tape + "'", x.read(), m.read());
    }

    private static boolean oneCall(MouldThatComesOff x, Model m, int style, List<String> log) {
        int s = about(8), w = about(6), w2 = about(6), axis = about(3), p = about(Math.max(1, m.pieceCount()));
        long set;
        switch (below(62)) {
            case 0: { int so = about(5), n = about(41); return same(log, "row " + s + " " + so + " " + n, x.row(s, so, n), m.row(s, so, n)); }
            case 1: { int i = about(41); long v = below(3) == 0 ? bits() : below(3) * 128L; return same(log, "set " + s + " " + i + " " + v, x.set(s, i, v), m.set(s, i, v)); }
            case 2: { int q = about(8), i = about(10), j = about(10), n = about(12); return same(log, "copy " + s + " " + q + " " + i + " " + j + " " + n, x.copy(s, q, i, j, n), m.copy(s, q, i, j, n)); }
            case 3: { int i = about(41); return same(log, "element " + s + " " + i, x.element(s, i), m.element(s, i)); }
            case 4: return same(log, "holds " + s, x.holds(s), m.holds(s));
            case 5: case 6: case 7: { int k = below(20) == 0 ? about(7) : 1 + below(5); return same(log, "move " + s + " " + k + " " + w + " " + w2, x.move(s, k, w, w2), m.move(s, k, w, w2)); }
            case 8: { int k = about(6); return same(log, "says " + s + " " + k, x.says(s, k), m.says(s, k)); }
            case 9: { if (style != 0 && below(6) != 0) return true; int n = 1 + about(4); return same(log, "size " + n, x.size(n), m.size(n)); }
            case 10: case 11: { set = someSet(m); boolean is = below(style == 1 ? 5 : 2) != 0; return same(log, "solid " + set + " " + is, x.solid(set, is), m.solid(set, is)); }
            case 12: return same(log, "figure " + s, x.figure(s), m.figure(s));
            case 13: case 14: { set = someSet(m); return same(log, "piece " + set, x.piece(set), m.piece(set)); }
            case 15: { set = someSet(m); return same(log, "alter " + p + " " + set, x.alter(p, set), m.alter(p, set)); }
            case 16: case 17: { int what = about(3), c = about(m.count()), v = about(what == 0 ? 10 : what == 1 ? 65 : 1000); return same(log, "ask " + what + " " + c + " " + v, x.ask(what, c, v), m.ask(what, c, v)); }
            case 18: { int v = (int) bits(), n = about(5); return same(log, "feed " + v + " " + n, x.feed(v, n), m.feed(v, n)); }
            case 19: return same(log, "wipe", x.wipe(), m.wipe());
            case 20: return same(log, "read '" + m.tapeText() + "'", x.read(), m.read());
            case 21: case 22: return feedText(x, m, log);
            case 23: { int what = about(4); return same(log, "cubes " + what, x.cubes(what), m.cubes(what)); }
            case 24: return same(log, "setOf " + p, x.setOf(p), m.setOf(p));
            case 25: { set = someSet(m); return same(log, "whole " + set, x.whole(set), m.whole(set)); }
            case 26: return same(log, "parts", x.parts(), m.parts());
            case 27: { int c = about(m.count()); return same(log, "free " + c, x.free(c), m.free(c)); }
            case 28: { set = someSet(m); return same(log, "comes " + s + " " + set, x.comes(s, set), m.comes(s, set)); }
            case 29: return same(log, "wrong true", x.wrong(true), m.wrong(true)) && same(log, "wrong false", x.wrong(false), m.wrong(false));
            case 30: return same(log, "loose " + p, x.loose(p), m.loose(p));
            case 31: return same(log, "bars " + s + " " + p, x.bars(s, p), m.bars(s, p));
            case 32: { int i = about(9), what = about(2); return same(log, "order " + i + " " + what, x.order(i, what), m.order(i, what)); }
            case 33: return same(log, "ring", x.ring(), m.ring());
            case 34: { int ways = about(64); return same(log, "serves " + ways, x.serves(ways), m.serves(ways)); }
            case 35: return same(log, "fewest", x.fewest(), m.fewest());
            case 36: { int ways = about(64), what = about(2); return same(log, "parted " + ways + " " + what, x.parted(ways, what), m.parted(ways, what)); }
            case 37: return same(log, "hidden", x.hidden(), m.hidden());
            case 38: case 39: { int ways = below(3) == 0 ? 63 : about(64); return same(log, "make " + ways, x.make(ways), m.make(ways)); }
            case 40: return same(log, "halves " + axis, x.halves(axis), m.halves(axis));
            case 41: return same(log, "line " + axis, x.line(axis), m.line(axis));
            case 42: { int h = about(4); return same(log, "cut " + axis + " " + h, x.cut(axis, h), m.cut(axis, h)); }
            case 43: return same(log, "best", x.best(), m.best());
            case 44: return same(log, "helps " + s, x.helps(s), m.helps(s));
            case 45: { set = someSet(m); int k = about(10); return same(log, "slide " + s + " " + set + " " + k, x.slide(s, set, k), m.slide(s, set, k)); }
            case 46: return same(log, "tunnels " + axis, x.tunnels(axis), m.tunnels(axis));
            case 47: return same(log, "needed", x.needed(), m.needed());
            case 48: return same(log, "alike", x.alike(), m.alike());
            case 49: return same(log, "mirror " + axis, x.mirror(axis), m.mirror(axis));
            case 50: return same(log, "turn " + axis, x.turn(axis), m.turn(axis));
            case 51: return same(log, "thin " + p + " " + axis, x.thin(p, axis), m.thin(p, axis));
            case 52: return same(log, "spare " + p, x.spare(p), m.spare(p));
            case 53: return same(log, "grow " + p, x.grow(p), m.grow(p));
            case 54: return same(log, "faces " + p, x.faces(p), m.faces(p));
            case 55: return same(log, "casts", x.casts(), m.casts());
            case 56: case 57: return same(log, "step", x.step(), m.step());
            case 58: return same(log, "again", x.again(), m.again());
            case 59: return same(log, "image", x.image(), m.image());
            case 60: return below(3) != 0 || same(log, "back", x.back(), m.back());
            default: {
                for (int what = -1; what <= 17; what++) {
                    if (!same(log, "status " + what, x.status(what), m.status(what))) return false;
                }
                return true;
            }
        }
    }
}

/** The document's words, cube by cube. */
final class Model {
    /** All that an image keeps. */
    static final class State {
        int n = 3;
        boolean[] solid = new boolean[64];
        List<boolean[]> pieces = new ArrayList<>();
        List<Boolean> off = new ArrayList<>();
        int[] shows = new int[64];
        int heavy = 64;
        int wear = 100;

        State() { java.util.Arrays.fill(shows, 1); }

        State twin() {
            State t = new State();
            t.n = n;
            t.solid = solid.clone();
            for (boolean[] p : pieces) t.pieces.add(p.clone());
            t.off.addAll(off);
            t.shows = shows.clone();
            t.heavy = heavy;
            t.wear = wear;
            return t;
        }

        void resize(int size) {
            n = size;
            solid = new boolean[64];
            pieces.clear();
            off.clear();
            java.util.Arrays.fill(shows, 1);
        }

        int count() { return n * n * n; }
        int[] at(int c) { return new int[] {c % n, c / n % n, c / n / n}; }
        int cube(int[] a) {
            for (int v : a) if (v < 0 || v >= n) return -1;
            return a[0] + n * a[1] + n * n * a[2];
        }
        int next(int c, int way) {
            int[] a = at(c);
            a[way / 2] += way % 2 == 0 ? 1 : -1;
            return cube(a);
        }
        boolean beside(int c, int d) {
            for (int w = 0; w < 6; w++) if (next(c, w) == d) return true;
            return false;
        }
    }

    static final class Thing {
        int sort = -1;
        long[] row;
        int kind, a, b;
    }

    private State st = new State();
    private State image = null;
    private final Thing[] shelves = new Thing[8];
    private final StringBuilder tape = new StringBuilder();
    private final int[] refused = new int[7];

    int count() { return st.count(); }
    int pieceCount() { return st.pieces.size(); }
    String tapeText() { return tape.toString(); }
    long figureBits() { return toBits(st.solid); }

    private int no(int code) { refused[-code]++; return code; }

    private long toBits(boolean[] b) {
        long r = 0;
        for (int c = 0; c < st.count(); c++) if (b[c]) r |= 1L << c;
        return r;
    }

    private boolean[] toCubes(long set) {
        boolean[] b = new boolean[64];
        for (int c = 0; c < st.count(); c++) b[c] = (set >> c & 1) == 1;
        return b;
    }

    private static int many(boolean[] b) {
        int k = 0;
        for (boolean v : b) if (v) k++;
        return k;
    }

    long box(int a, int b) {
        boolean[] r = boxCubes(st, a, b);
        return toBits(r);
    }

    private static boolean[] boxCubes(State s, int a, int b) {
        boolean[] r = new boolean[64];
        int[] p = s.at(a), q = s.at(b);
        for (int c = 0; c < s.count(); c++) {
            int[] t = s.at(c);
            boolean in = true;
            for (int k = 0; k < 3; k++) in &= (p[k] <= t[k] && t[k] <= q[k]) || (q[k] <= t[k] && t[k] <= p[k]);
            r[c] = in;
        }
        return r;
    }

    // ---- shelves ----

    private boolean shelf(int s) { return s >= 0 && s <= 7; }
    private boolean isRow(int s) { return shelves[s] != null && shelves[s].row != null; }
    private boolean isMove(int s) { return shelves[s] != null && shelves[s].row == null; }

    int row(int s, int sort, int n) {
        if (!shelf(s) || sort < 0 || sort > 4 || n < 0 || n > 40) return no(-2);
        shelves[s] = new Thing();
        shelves[s].sort = sort;
        shelves[s].row = new long[n];
        return 1;
    }

    int set(int s, int i, long v) {
        if (!shelf(s)) return no(-2);
        if (isMove(s)) return no(-3);
        if (shelves[s] == null) return no(-4);
        Thing t = shelves[s];
        if (i < 0 || i >= t.row.length) return no(-2);
        if (t.sort == 4) t.row[i] = v == 0 ? 0 : 1;
        else {
            int bits = 8 << t.sort;
            t.row[i] = v << (64 - bits) >> (64 - bits);
        }
        return 1;
    }

    int copy(int p, int q, int i, int j, int n) {
        if (!shelf(p) || !shelf(q)) return no(-2);
        if (isMove(p) || isMove(q)) return no(-3);
        if (isRow(p) && isRow(q) && shelves[p].sort != shelves[q].sort) return no(-3);
        if (shelves[p] == null || shelves[q] == null) return no(-4);
        if (i < 0 || j < 0 || n < 0 || (long) i + n > shelves[p].row.length || (long) j + n > shelves[q].row.length) return no(-2);
        long[] was = shelves[p].row.clone();
        for (int k = 0; k < n; k++) shelves[q].row[j + k] = was[i + k];
        return n;
    }

    long element(int s, int i) {
        return shelf(s) && isRow(s) && i >= 0 && i < shelves[s].row.length ? shelves[s].row[i] : 0;
    }

    int holds(int s) {
        if (!shelf(s) || shelves[s] == null) return -1;
        return isRow(s) ? shelves[s].sort : 10 + shelves[s].kind;
    }

    int move(int s, int kind, int a, int b) {
        if (!shelf(s) || kind < 1 || kind > 5 || a < 0 || a > 5 || b < 0 || b > 5) return no(-2);
        Thing t = new Thing();
        t.kind = kind;
        t.a = a;
        t.b = b;
        shelves[s] = t;
        return 1;
    }

    private int needMove(int s) {
        if (!shelf(s)) return -2;
        if (isRow(s)) return -3;
        return shelves[s] == null ? -4 : 0;
    }

    int says(int s, int kind) {
        if (!shelf(s) || kind < 0 || kind > 5) return no(-2);
        int r = needMove(s);
        if (r != 0) return no(r);
        Thing t = shelves[s];
        int[] above = {-1, 0, 0, 1, 1, 2};
        boolean fits = false;
        for (int k = t.kind; k >= 0; k = above[k]) fits |= k == kind;
        if (!fits) return no(-3);
        if (kind == 0) return t.a;
        if (kind == 2 || kind == 5) return t.b;
        int sum = 0;
        for (int c = 0; c < st.count(); c++) {
            if (!st.solid[c] && goes(t, toCubes(1L << c), st.solid)) sum++;
        }
        return sum;
    }

    /** The place of each cube behind k steps, followed one by one. */
    private int follow(Thing t, int c, int k) {
        int ahead = t.kind == 2 ? 1 : t.kind == 5 ? 2 : 1000;
        for (int q = 0; q < k && c >= 0; q++) c = st.next(c, q < ahead ? t.a : t.b);
        return c;
    }

    private boolean goes(Thing t, boolean[] set, boolean[] others) {
        if (many(set) == 0) return true;
        if (t.kind == 3) {
            for (int c = 0; c < st.count(); c++) for (int d = 0; d < st.count(); d++) if (set[c] && set[d]) {
                int[] p = st.at(c), q = st.at(d);
                for (int k = 0; k < 3; k++) if (k != t.a / 2 && p[k] != q[k]) return false;
            }
        }
        if (t.kind == 4) {
            boolean end = false;
            for (int c = 0; c < st.count(); c++) if (set[c] && st.next(c, t.a) < 0) end = true;
            if (!end) return false;
        }
        for (int k = 1; k < 20; k++) for (int c = 0; c < st.count(); c++) if (set[c]) {
            int d = follow(t, c, k);
            if (d >= 0 && others[d]) return false;
        }
        return true;
    }

    // ---- figure, pieces ----

    int size(int n) {
        if (n < 2 || n > 4) return no(-2);
        int was = st.n;
        st.resize(n);
        return was;
    }

    int solid(long set, boolean is) {
        int k = 0;
        for (int c = 0; c < st.count(); c++) if ((set >> c & 1) == 1 && st.solid[c] != is) {
            st.solid[c] = is;
            k++;
        }
        return k;
    }

    int figure(int s) {
        if (!shelf(s)) return no(-2);
        if (isMove(s)) return no(-3);
        if (shelves[s] == null) return no(-4);
        for (int c = 0; c < st.count(); c++) st.solid[c] = element(s, c) != 0;
        return many(st.solid);
    }

    int piece(long set) {
        if (st.pieces.size() == 8) return no(-6);
        st.pieces.add(toCubes(set));
        st.off.add(false);
        return st.pieces.size() - 1;
    }

    private boolean isPiece(int p) { return p >= 0 && p < st.pieces.size(); }

    int alter(int p, long set) {
        if (!isPiece(p)) return no(-2);
        if (st.off.get(p)) return no(-5);
        int had = many(st.pieces.get(p));
        st.pieces.set(p, toCubes(set));
        return had;
    }

    int ask(int what, int cube, int v) {
        int was;
        if (what == 0 && cube >= 0 && cube < st.count() && v >= 0 && v <= 9) {
            was = st.shows[cube];
            st.shows[cube] = v;
        } else if (what == 1 && v >= 1 && v <= 64) {
            was = st.heavy;
            st.heavy = v;
        } else if (what == 2 && v >= 1 && v <= 999) {
            was = st.wear;
            st.wear = v;
        } else return no(-2);
        return was;
    }

    // ---- tape ----

    int feed(int v, int n) {
        if (n < 1 || n > 4) return no(-2);
        if (tape.length() + n > 250) return no(-6);
        for (int k = n - 1; k >= 0; k--) tape.append((char) (v >> 8 * k & 255));
        return tape.length();
    }

    int wipe() {
        int had = tape.length();
        tape.setLength(0);
        return had;
    }

    /** A token: its text, and its place; an empty text ends them. */
    static final class Token {
        final String text;
        final int place;
        Token(String text, int place) { this.text = text; this.place = place; }
        boolean number() { return text.matches("[0-9]{1,3}"); }
    }

    int read() {
        String t = tape.toString();
        tape.setLength(0);
        List<Token> tokens = new ArrayList<>();
        java.util.regex.Matcher m = java.util.regex.Pattern.compile("[a-z]+|[0-9]+|[^ ]", java.util.regex.Pattern.DOTALL).matcher(t);
        while (m.find()) tokens.add(new Token(m.group(), m.start()));
        tokens.add(new Token("", t.length()));
        State draft = st.twin();
        int statements = 0;
        int k = 0;
        while (true) {
            int r = statement(tokens, k, draft);
            if (r < 0) return fault(tokens.get(-1 - r));
            statements++;
            if (tokens.get(r).text.isEmpty()) break;
            if (!tokens.get(r).text.equals(";")) return fault(tokens.get(r));
            k = r + 1;
        }
        st = draft;
        return statements;
    }

    private int fault(Token t) {
        no(-2);
        return -20 - t.place;
    }

    /** The token behind the statement; less 0: -1 less the token at fault. */
    private static int statement(List<Token> ts, int k, State d) {
        String word = ts.get(k).text;
        String form;
        switch (word) {
            case "size": form = "n"; break;
            case "box": case "cut": case "fill": form = "ctc"; break;
            case "piece": form = ""; break;
            case "shows": form = "cs"; break;
            case "heavy": form = "h"; break;
            case "wear": form = "w"; break;
            default: return -1 - k;
        }
        if (word.equals("piece") && d.pieces.size() == 8) return -1 - k;
        if (word.equals("fill") && d.pieces.isEmpty()) return -1 - k;
        int[] v = new int[3];
        for (int i = 0; i < form.length(); i++) {
            k++;
            Token t = ts.get(k);
            char f = form.charAt(i);
            if (f == 't') {
                if (!t.text.equals("to")) return -1 - k;
                continue;
            }
            if (!t.number()) return -1 - k;
            v[i] = Integer.parseInt(t.text);
            int low = f == 'n' ? 2 : f == 'h' || f == 'w' ? 1 : 0;
            int high = f == 'n' ? 4 : f == 'h' ? 64 : f == 'w' ? 999 : f == 's' ? 9 : d.count() - 1;
            if (v[i] < low || v[i] > high) return -1 - k;
        }
        switch (word) {
            case "size": d.resize(v[0]); break;
            case "piece": d.pieces.add(new boolean[64]); d.off.add(false); break;
            case "shows": d.shows[v[0]] = v[1]; break;
            case "heavy": d.heavy = v[0]; break;
            case "wear": d.wear = v[0]; break;
            default:
                boolean[] b = boxCubes(d, v[0], v[2]);
                for (int c = 0; c < 64; c++) if (b[c]) {
                    if (word.equals("fill")) d.pieces.get(d.pieces.size() - 1)[c] = true;
                    else d.solid[c] = word.equals("box");
                }
        }
        return k + 1;
    }

    // ---- sets ----

    long cubes(int what) {
        long r = 0;
        for (int c = 0; c < st.count(); c++) {
            boolean in = what == 0 && st.solid[c] || what == 1 && !st.solid[c] || what == 2 && !st.solid[c] && freeOf(st.solid, c) == 0;
            if (what == 3) in = inPieces(c);
            if (in) r |= 1L << c;
        }
        return r;
    }

    private boolean inPieces(int c) {
        for (int p = 0; p < st.pieces.size(); p++) if (!st.off.get(p) && st.pieces.get(p)[c]) return true;
        return false;
    }

    long setOf(int p) { return isPiece(p) ? toBits(st.pieces.get(p)) : 0; }

    private int partCount(boolean[] set) {
        boolean[] rest = set.clone();
        int k = 0;
        for (int c = 0; c < st.count(); c++) if (rest[c]) {
            k++;
            drop(rest, c);
        }
        return k;
    }

    private void drop(boolean[] rest, int c) {
        rest[c] = false;
        for (int d = 0; d < st.count(); d++) if (rest[d] && st.beside(c, d)) drop(rest, d);
    }

    int whole(long set) { return partCount(toCubes(set)) <= 1 ? 1 : 0; }
    int parts() { return partCount(st.solid); }

    private int freeOf(boolean[] fig, int c) {
        int ways = 0;
        for (int w = 0; w < 6; w++) {
            boolean open = true;
            for (int d = st.next(c, w); d >= 0; d = st.next(d, w)) open &= !fig[d];
            if (open) ways |= 1 << w;
        }
        return ways;
    }

    int free(int c) {
        if (c < 0 || c >= st.count()) return no(-2);
        if (st.solid[c]) return no(-5);
        return freeOf(st.solid, c);
    }

    int comes(int s, long set) {
        int r = needMove(s);
        if (r != 0) return no(r);
        return goes(shelves[s], toCubes(set), st.solid) ? 1 : 0;
    }

    // ---- parting ----

    int wrong(boolean by) {
        int np = st.pieces.size();
        for (int p = 0; p < np; p++) if (!st.off.get(p)) {
            for (int c = 0; c < st.count(); c++) if (st.pieces.get(p)[c] && st.solid[c]) return by ? 1 : p;
        }
        for (int p = 0; p < np; p++) for (int q = 0; q < p; q++) if (!st.off.get(p) && !st.off.get(q)) {
            for (int c = 0; c < st.count(); c++) if (st.pieces.get(p)[c] && st.pieces.get(q)[c]) return by ? 2 : p;
        }
        for (int p = 0; p < np; p++) if (!st.off.get(p) && partCount(st.pieces.get(p)) != 1) return by ? 3 : p;
        for (int p = 0; p < np; p++) if (!st.off.get(p) && many(st.pieces.get(p)) > st.heavy) return by ? 4 : p;
        if (!st.off.contains(true)) {
            for (int c = 0; c < st.count(); c++) if (!st.solid[c] && !inPieces(c)) return by ? 5 : c;
        }
        return by ? 0 : -1;
    }

    private int looseBy(int p, List<Boolean> off) {
        boolean[] others = st.solid.clone();
        for (int q = 0; q < st.pieces.size(); q++) if (q != p && !off.get(q)) {
            for (int c = 0; c < 64; c++) others[c] |= st.pieces.get(q)[c];
        }
        for (int s = 0; s < 8; s++) if (isMove(s) && goes(shelves[s], st.pieces.get(p), others)) return s;
        return -1;
    }

    int loose(int p) {
        if (!isPiece(p)) return no(-2);
        if (st.off.get(p)) return no(-5);
        return looseBy(p, st.off);
    }

    int bars(int s, int p) {
        if (!shelf(s) || !isPiece(p)) return no(-2);
        int r = needMove(s);
        if (r != 0) return no(r);
        if (st.off.get(p)) return no(-5);
        int bits = 0;
        for (int q = 0; q < st.pieces.size(); q++) {
            if (q != p && !st.off.get(q) && !goes(shelves[s], st.pieces.get(p), st.pieces.get(q))) bits += 1 << q;
        }
        return bits;
    }

    private List<int[]> orderOf(List<Boolean> off) {
        List<int[]> r = new ArrayList<>();
        boolean more = true;
        while (more) {
            more = false;
            for (int p = 0; p < st.pieces.size() && !more; p++) if (!off.get(p) && looseBy(p, off) >= 0) {
                r.add(new int[] {p, looseBy(p, off)});
                off.set(p, true);
                more = true;
            }
        }
        return r;
    }

    int order(int i, int what) {
        if (what != 0 && what != 1) return no(-2);
        List<int[]> o = orderOf(new ArrayList<>(st.off));
        return i < 0 || i >= o.size() ? -1 : o.get(i)[what];
    }

    int ring() {
        List<Boolean> off = new ArrayList<>(st.off);
        orderOf(off);
        int bits = 0;
        for (int p = 0; p < off.size(); p++) if (!off.get(p)) bits += 1 << p;
        return bits;
    }

    // ---- what can be ----

    private boolean serve(boolean[] fig, int ways) {
        for (int c = 0; c < st.count(); c++) if (!fig[c] && (freeOf(fig, c) & ways) == 0) return false;
        return true;
    }

    int serves(int ways) {
        if (ways < 0 || ways > 63) return no(-2);
        return serve(st.solid, ways) ? 1 : 0;
    }

    private int few(boolean[] fig) {
        for (int k = 0; k <= 6; k++) for (int ways = 0; ways < 64; ways++) {
            if (Integer.bitCount(ways) == k && serve(fig, ways)) return ways;
        }
        return -1;
    }

    int fewest() {
        int r = few(st.solid);
        return r < 0 ? no(-5) : r;
    }

    private int[] owners(int ways) {
        int[] own = new int[64];
        for (int c = 0; c < 64; c++) {
            own[c] = -1;
            if (c < st.count() && !st.solid[c]) own[c] = Integer.numberOfTrailingZeros(freeOf(st.solid, c) & ways);
        }
        return own;
    }

    private List<boolean[]> partsBy(int ways) {
        int[] own = owners(ways);
        List<boolean[]> r = new ArrayList<>();
        boolean[] seen = new boolean[64];
        for (int c = 0; c < st.count(); c++) if (own[c] >= 0 && !seen[c]) {
            boolean[] alike = new boolean[64];
            for (int d = 0; d < st.count(); d++) alike[d] = own[d] == own[c];
            boolean[] rest = alike.clone();
            drop(rest, c);
            boolean[] part = new boolean[64];
            for (int d = 0; d < 64; d++) {
                part[d] = alike[d] && !rest[d];
                seen[d] |= part[d];
            }
            r.add(part);
        }
        return r;
    }

    private int seam(int ways) {
        int[] own = owners(ways);
        int sum = 0;
        for (int c = 0; c < st.count(); c++) for (int d = 0; d < c; d++) {
            if (own[c] >= 0 && own[d] >= 0 && own[c] != own[d] && st.beside(c, d)) sum += st.shows[c] + st.shows[d];
        }
        return sum;
    }

    int parted(int ways, int what) {
        if (ways < 0 || ways > 63 || what < 0 || what > 1) return no(-2);
        if (!serve(st.solid, ways)) return no(-5);
        return what == 0 ? partsBy(ways).size() : seam(ways);
    }

    int hidden() {
        int best = -1;
        for (int ways = 0; ways < 64; ways++) if (serve(st.solid, ways)) {
            if (best < 0 || seam(ways) < seam(best)) best = ways;
        }
        return best < 0 ? no(-5) : best;
    }

    int make(int ways) {
        if (ways < 0 || ways > 63) return no(-2);
        if (!serve(st.solid, ways)) return no(-5);
        List<boolean[]> r = partsBy(ways);
        if (r.size() > 8) return no(-6);
        st.pieces.clear();
        st.off.clear();
        for (boolean[] b : r) {
            st.pieces.add(b);
            st.off.add(false);
        }
        return r.size();
    }

    private boolean isAxis(int axis) { return axis >= 0 && axis <= 2; }

    int halves(int axis) {
        if (!isAxis(axis)) return no(-2);
        int bits = 0;
        for (int h = 0; h <= st.n; h++) {
            boolean does = true;
            for (int c = 0; c < st.count(); c++) if (!st.solid[c]) {
                int way = st.at(c)[axis] < h ? 2 * axis + 1 : 2 * axis;
                does &= (freeOf(st.solid, c) >> way & 1) == 1;
            }
            if (does) bits |= 1 << h;
        }
        return bits;
    }

    /** The rows along an axis, each as its cubes from less to more. */
    private List<int[]> rows(int axis) {
        List<int[]> r = new ArrayList<>();
        for (int c = 0; c < st.count(); c++) if (st.at(c)[axis] == 0) {
            int[] line = new int[st.n];
            for (int k = 0, d = c; k < st.n; k++, d = st.next(d, 2 * axis)) line[k] = d;
            r.add(line);
        }
        return r;
    }

    int line(int axis) {
        if (!isAxis(axis)) return no(-2);
        for (int[] line : rows(axis)) {
            StringBuilder t = new StringBuilder();
            for (int c : line) t.append(st.solid[c] ? '#' : '.');
            if (!t.toString().matches("\\.*#*\\.*")) return 0;
        }
        return 1;
    }

    private int cutCount(int axis, int h) {
        int sum = 0;
        for (int side = 0; side < 2; side++) {
            boolean[] part = new boolean[64];
            for (int c = 0; c < st.count(); c++) part[c] = st.solid[c] && st.at(c)[axis] < h == (side == 0);
            int r = few(part);
            sum += r < 0 ? 9 : Integer.bitCount(r);
        }
        return sum;
    }

    int cut(int axis, int h) {
        if (!isAxis(axis) || h < 1 || h > st.n - 1) return no(-2);
        return cutCount(axis, h);
    }

    int best() {
        int found = -1, least = 99;
        for (int axis = 2; axis >= 0; axis--) for (int h = st.n - 1; h >= 1; h--) {
            int k = cutCount(axis, h);
            if (k <= least) {
                least = k;
                found = 10 * axis + h;
            }
        }
        return found;
    }

    int helps(int s) {
        int r = needMove(s);
        if (r != 0) return no(r);
        int sum = 0;
        for (int c = 0; c < st.count(); c++) {
            if (!st.solid[c] && freeOf(st.solid, c) == 0 && goes(shelves[s], toCubes(1L << c), st.solid)) sum++;
        }
        return sum;
    }

    long slide(int s, long set, int k) {
        if (!shelf(s) || k < 0 || k > 9) return no(-2);
        int r = needMove(s);
        if (r != 0) return no(r);
        long at = 0;
        for (int c = 0; c < st.count(); c++) if ((set >> c & 1) == 1 && follow(shelves[s], c, k) >= 0) at |= 1L << follow(shelves[s], c, k);
        return at;
    }

    int tunnels(int axis) {
        if (!isAxis(axis)) return no(-2);
        int k = 0;
        for (int[] line : rows(axis)) {
            boolean clear = true;
            for (int c : line) clear &= !st.solid[c];
            if (clear) k++;
        }
        return k;
    }

    long needed() {
        long r = 0;
        for (int c = 0; c < st.count(); c++) if (st.solid[c]) {
            boolean[] without = st.solid.clone();
            without[c] = false;
            if (partCount(without) > partCount(st.solid)) r |= 1L << c;
        }
        return r;
    }

    private int mirrorOf(int c, int axis) {
        int[] a = st.at(c);
        a[axis] = st.n - 1 - a[axis];
        return st.cube(a);
    }

    private int turnOf(int c, int axis) {
        int u = axis == 0 ? 1 : 0, v = axis == 2 ? 1 : 2;
        int[] a = st.at(c);
        int wasU = a[u], wasV = a[v];
        a[u] = wasV;
        a[v] = st.n - 1 - wasU;
        return st.cube(a);
    }

    int alike() {
        int bits = 0;
        for (int axis = 0; axis < 3; axis++) {
            boolean same = true;
            for (int c = 0; c < st.count(); c++) same &= st.solid[c] == st.solid[mirrorOf(c, axis)];
            if (same) bits |= 1 << axis;
        }
        return bits;
    }

    private int remap(int[] to) {
        State was = st.twin();
        for (int c = 0; c < st.count(); c++) {
            st.solid[to[c]] = was.solid[c];
            st.shows[to[c]] = was.shows[c];
            for (int p = 0; p < st.pieces.size(); p++) st.pieces.get(p)[to[c]] = was.pieces.get(p)[c];
        }
        return 1;
    }

    int mirror(int axis) {
        if (!isAxis(axis)) return no(-2);
        int[] to = new int[64];
        for (int c = 0; c < st.count(); c++) to[c] = mirrorOf(c, axis);
        return remap(to);
    }

    int turn(int axis) {
        if (!isAxis(axis)) return no(-2);
        int[] to = new int[64];
        for (int c = 0; c < st.count(); c++) to[c] = turnOf(c, axis);
        return remap(to);
    }

    int thin(int p, int axis) {
        if (!isPiece(p) || !isAxis(axis)) return no(-2);
        int least = 99;
        for (int[] line : rows(axis)) {
            int k = 0;
            for (int c : line) if (st.pieces.get(p)[c]) k++;
            if (k > 0) least = Math.min(least, k);
        }
        return least == 99 ? 0 : least;
    }

    long spare(int p) {
        if (!isPiece(p)) return 0;
        long r = 0;
        for (int c = 0; c < st.count(); c++) if (!st.solid[c] && !inPieces(c)) {
            for (int d = 0; d < st.count(); d++) if (st.pieces.get(p)[d] && st.beside(c, d)) r |= 1L << c;
        }
        return r;
    }

    int grow(int p) {
        if (!isPiece(p)) return no(-2);
        if (st.off.get(p)) return no(-5);
        long more = spare(p);
        for (int c = 0; c < 64; c++) if ((more >> c & 1) == 1) st.pieces.get(p)[c] = true;
        return Long.bitCount(more);
    }

    private int faceCount(int p) {
        int k = 0;
        for (int c = 0; c < st.count(); c++) for (int d = 0; d < st.count(); d++) {
            if (st.pieces.get(p)[c] && st.solid[d] && st.beside(c, d)) k++;
        }
        return k;
    }

    int faces(int p) { return isPiece(p) ? faceCount(p) : no(-2); }

    int casts() {
        int most = 0;
        for (int p = 0; p < st.pieces.size(); p++) if (!st.off.get(p)) most = Math.max(most, faceCount(p));
        return most == 0 ? 999 : st.wear / most;
    }

    int step() {
        List<int[]> o = orderOf(new ArrayList<>(st.off));
        if (o.isEmpty()) return no(-5);
        st.off.set(o.get(0)[0], true);
        return o.get(0)[0];
    }

    int again() {
        int k = 0;
        for (int p = 0; p < st.off.size(); p++) {
            if (st.off.get(p)) k++;
            st.off.set(p, false);
        }
        return k;
    }

    int image() {
        image = st.twin();
        return 1;
    }

    int back() {
        if (image == null) return no(-5);
        st = image.twin();
        return 1;
    }

    int status(int what) {
        switch (what) {
            case 0: return st.n;
            case 1: return many(st.solid);
            case 2: return st.pieces.size();
            case 3: { int k = 0; for (boolean b : st.off) if (b) k++; return k; }
            case 4: return st.heavy;
            case 5: return st.wear;
            case 6: return tape.length();
            case 7: { int k = 0; for (Thing t : shelves) if (t != null) k++; return k; }
            case 12: case 13: case 14: case 15: case 16: return refused[what - 10];
            default: return -1;
        }
    }
}
