import java.util.ArrayList;
import java.util.List;
import java.util.Set;
import java.util.TreeSet;

/**
 * What follows from the document whatever the figure is: answers that agree with one another, and answers that turn
 * with the block. Nothing here works out an answer anew, so a misreading that a model would share shows here.
 */
public final class LawsTest {
    private static final int STUCK = -5;

    private static long seed;
    private static int run;
    private static long looked = 0;
    private static int wrong = 0;

    public static void main(String[] args) {
        int runs = args.length > 0 ? Integer.parseInt(args[0]) : 3000;
        for (run = 0; run < runs && wrong < 20; run++) {
            seed = 0x5DEECE66DL * (run + 11) ^ 0x2545F4914F6CDD1DL;
            Told told = Told.any();
            agreeing(told);
            turned(told, Turning.any(told.n));
            byTheClassItself(told);
        }
        System.out.println(runs + " moulds, " + looked + " answers looked at, " + wrong + " faults");
        if (wrong != 0) System.exit(1);
    }

    private static int below(int n) {
        seed ^= seed << 13;
        seed ^= seed >>> 7;
        seed ^= seed << 17;
        return (int) ((seed >>> 20) % n);
    }

    private static long someBits() {
        long a = 0;
        for (int k = 0; k < 8; k++) a = a << 8 | below(256);
        return a;
    }

    private static void same(String law, long got, long want) {
        looked++;
        if (got == want) return;
        wrong++;
        System.out.println("mould " + run + ": " + law + ": " + got + ", due is " + want);
    }

    private static void holds(String law, boolean is) { same(law, is ? 1 : 0, 1); }

    // ---- a mould as it is told to an object ----

    private static final class Told {
        int n;
        long figure;
        long[] pieces;
        int[] shows;
        int[][] moves;
        int steps;
        int wear;
        int heavy;

        static Told any() {
            Told t = new Told();
            t.n = 2 + below(3);
            int count = t.n * t.n * t.n;
            long all = count == 64 ? -1L : (1L << count) - 1;
            int thick = below(4);
            t.figure = (thick == 0 ? someBits() & someBits() & someBits() : thick == 1 ? someBits() & someBits() : thick == 2 ? someBits() : someBits() | someBits()) & all;
            t.pieces = new long[below(9)];
            long rest = all & ~t.figure;
            for (int p = 0; p < t.pieces.length; p++) {
                t.pieces[p] = below(8) == 0 ? someBits() & someBits() & all : someBits() & someBits() & rest;
                if (below(6) != 0) rest &= ~t.pieces[p];
            }
            t.shows = new int[count];
            for (int c = 0; c < count; c++) t.shows[c] = below(10);
            t.moves = new int[8][];
            for (int s = 0; s < 8; s++) t.moves[s] = new int[] {1 + below(5), below(6), below(6)};
            t.steps = below(3);
            t.wear = 1 + below(999);
            t.heavy = 1 + below(64);
            return t;
        }

        MouldThatComesOff told() {
            MouldThatComesOff x = new MouldThatComesOff();
            x.size(n);
            x.solid(figure, true);
            for (long p : pieces) x.piece(p);
            for (int c = 0; c < shows.length; c++) x.ask(0, c, shows[c]);
            for (int s = 0; s < 8; s++) x.move(s, moves[s][0], moves[s][1], moves[s][2]);
            x.ask(1, 0, heavy);
            x.ask(2, 0, wear);
            for (int k = 0; k < steps; k++) x.step();
            return x;
        }
    }

    // ---- answers that agree with one another ----

    private static void agreeing(Told t) {
        MouldThatComesOff x = t.told();
        freeAndMoves(t, x);
        x = t.told();
        waysThatServe(t, x);
        x = t.told();
        planes(t, x);
        x = t.told();
        piecesAndOrder(t, x);
        made(t);
    }

    private static void freeAndMoves(Told t, MouldThatComesOff x) {
        long empty = x.cubes(1);
        long never = 0;
        int[] freeBy = new int[6];
        for (int c = 0; c < t.shows.length; c++) {
            boolean solid = (t.figure >>> c & 1) == 1;
            same("a CUBE is empty, or free() is STUCK", empty >>> c & 1, solid ? 0 : 1);
            int free = x.free(c);
            if (solid) same("free() of a solid CUBE", free, STUCK);
            if (solid) continue;
            if (free == 0) never |= 1L << c;
            for (int w = 0; w < 6; w++) freeBy[w] += free >> w & 1;
        }
        same("NEVER ones are those that are FREE by none", x.cubes(2), never);
        for (int s = 0; s < 8; s++) {
            int[] m = t.moves[s];
            if (m[0] == 1 || m[0] == 3) same("alone, CUBES COME straight by a if they are FREE by it", x.says(s, 1), freeBy[m[1]]);
            if (m[0] == 1 || m[0] == 3 || m[0] == 4) same("no NEVER one COMES straight", x.helps(s), 0);
            long set = someBits() & someBits() & someBits() & empty;
            boolean met = false;
            for (int k = 1; k <= 9; k++) met |= (x.slide(s, set, k) & t.figure) != 0;
            if (m[0] == 1 || m[0] == 2 || m[0] == 5) same("it COMES if no step of it meets THE FIGURE", x.comes(s, set), met ? 0 : 1);
            if (met) same("it doesn't COME if a step of it meets THE FIGURE", x.comes(s, set), 0);
            same("behind 9 steps all is out", x.slide(s, -1, 9), 0);
        }
    }

    private static void waysThatServe(Told t, MouldThatComesOff x) {
        boolean never = x.cubes(2) != 0;
        same("all WAYS SERVE if there are no NEVER ones", x.serves(63), never ? 0 : 1);
        int fewest = x.fewest();
        int hidden = x.hidden();
        if (never) {
            same("fewest()", fewest, STUCK);
            same("hidden()", hidden, STUCK);
            return;
        }
        same("FEWEST SERVES", x.serves(fewest), 1);
        same("HIDDEN SERVES", x.serves(hidden), 1);
        int least = x.parted(hidden, 1);
        for (int ways = 0; ways < 64; ways++) {
            if (x.serves(ways) == 0) continue;
            int count = Integer.bitCount(ways) - Integer.bitCount(fewest);
            holds("none that SERVES has fewer than FEWEST, or as many and is less", count > 0 || count == 0 && ways >= fewest);
            int more = x.parted(ways, 1) - least;
            holds("none that SERVES has a lesser SEAM than HIDDEN, or the same and is less", more > 0 || more == 0 && ways >= hidden);
            same("with a WAY more it SERVES", x.serves(ways | 1 << below(6)), 1);
        }
    }

    private static void planes(Told t, MouldThatComesOff x) {
        int least = 99;
        for (int axis = 0; axis < 3; axis++) {
            int heights = x.halves(axis);
            if (heights != 0) same("what a plane does, some seam does", x.line(axis), 1);
            if (heights != 0) same("then both WAYS of the axis SERVE", x.serves(3 << 2 * axis), 1);
            same("LINE, if both WAYS of the axis SERVE", x.line(axis), x.serves(3 << 2 * axis));
            same("height n is the WAY less alone", heights >> t.n & 1, x.serves(2 << 2 * axis));
            same("height 0 is the WAY more alone", heights & 1, x.serves(1 << 2 * axis));
            for (int h = 1; h < t.n; h++) least = Math.min(least, x.cut(axis, h));
        }
        int best = x.best();
        same("BEST CUT is the least", x.cut(best / 10, best % 10), least);
        for (int axis = 0; axis <= best / 10; axis++) for (int h = 1; h < (axis == best / 10 ? best % 10 : t.n); h++) {
            holds("those ahead of it are more", x.cut(axis, h) > least);
        }
        same("parts() by whole()", x.whole(t.figure), x.parts() <= 1 ? 1 : 0);
        long needed = x.needed();
        int parts = x.parts();
        same("needed CUBES are solid", needed & ~t.figure, 0);
        for (int c = 0; c < t.shows.length; c++) {
            if ((t.figure >>> c & 1) == 0) continue;
            x.solid(1L << c, false);
            same("without it there are more parts", x.parts() > parts ? 1 : 0, needed >>> c & 1);
            x.solid(1L << c, true);
        }
    }

    private static void piecesAndOrder(Told t, MouldThatComesOff x) {
        int off = x.status(3);
        int ring = x.ring();
        int count = 0;
        int[] order = new int[8];
        int[] by = new int[8];
        for (int i = 0; x.order(i, 0) >= 0; i++) {
            order[i] = x.order(i, 0);
            by[i] = x.order(i, 1);
            same("none comes off that is of THE RING", ring >> order[i] & 1, 0);
            count++;
        }
        same("PIECES are OFF, in THE ORDER or in THE RING", off + count + Integer.bitCount(ring), t.pieces.length);
        long on = 0;
        int most = 0;
        for (int p = 0; p < t.pieces.length; p++) {
            if (x.loose(p) != STUCK) on |= x.setOf(p);
            if (x.loose(p) != STUCK) most = Math.max(most, x.faces(p));
            same("spare CUBES are none of a PIECE that is on", x.spare(p) & x.cubes(3), 0);
            same("spare CUBES are empty", x.spare(p) & ~x.cubes(1), 0);
        }
        same("CUBES of PIECES that are on", x.cubes(3), on);
        same("CASTS", x.casts(), most == 0 ? 999 : t.wear / most);
        for (int i = 0; i < count; i++) {
            same("it is LOOSE by this SHELF", x.loose(order[i]), by[i]);
            for (int p = 0; p < order[i]; p++) holds("none ahead of it is", x.loose(p) < 0);
            same("nothing bars it", x.bars(by[i], order[i]), 0);
            same("and so it is taken off", x.step(), order[i]);
        }
        same("THE RING is what is left", x.step(), STUCK);
        for (int p = 0; p < t.pieces.length; p++) same("none of it is LOOSE", x.loose(p), (ring >> p & 1) == 1 ? -1 : STUCK);
        same("again", x.again(), t.pieces.length - Integer.bitCount(ring));
    }

    private static void made(Told t) {
        MouldThatComesOff x = t.told();
        int ways = below(64);
        if (x.serves(ways) == 0) ways = 63;
        if (x.serves(ways) == 0) {
            same("make()", x.make(ways), STUCK);
            return;
        }
        int parts = x.parted(ways, 0);
        same("as many PIECES as PARTS, or FULL", x.make(ways), parts > 8 ? -6 : parts);
        if (parts > 8) return;
        x.ask(1, 0, 64);
        same("a PARTING of PARTS isn't WRONG", x.wrong(true), 0);
        same("they are the empty CUBES", x.cubes(3), x.cubes(1));
        for (int p = 1; p < parts; p++) {
            holds("by their least CUBES", Long.numberOfTrailingZeros(x.setOf(p - 1)) < Long.numberOfTrailingZeros(x.setOf(p)));
        }
        for (int p = 0; p < parts; p++) {
            int shared = ways;
            for (int c = 0; c < t.shows.length; c++) if ((x.setOf(p) >>> c & 1) == 1) shared &= x.free(c);
            holds("CUBES of one part have a WAY in which all are FREE", shared != 0);
            x.move(0, 1, Integer.numberOfTrailingZeros(shared), 0);
            same("so it COMES by that past THE FIGURE", x.comes(0, x.setOf(p)), 1);
        }
    }

    // ---- answers that turn with the block ----

    /** One of the 48 ways to lay a block onto itself: where each axis goes, and which are turned about. */
    private static final class Turning {
        final int n;
        final int[] to;
        final boolean[] about;

        Turning(int n, int[] to, boolean[] about) {
            this.n = n;
            this.to = to;
            this.about = about;
        }

        static Turning any(int n) {
            int[][] all = {{0, 1, 2}, {0, 2, 1}, {1, 0, 2}, {1, 2, 0}, {2, 0, 1}, {2, 1, 0}};
            return new Turning(n, all[below(6)], new boolean[] {below(2) == 0, below(2) == 0, below(2) == 0});
        }

        int cube(int c) {
            int[] at = {c % n, c / n % n, c / n / n};
            int[] r = new int[3];
            for (int k = 0; k < 3; k++) r[to[k]] = about[k] ? n - 1 - at[k] : at[k];
            return r[0] + n * r[1] + n * n * r[2];
        }

        long set(long set) {
            long r = 0;
            for (int c = 0; c < n * n * n; c++) if ((set >>> c & 1) == 1) r |= 1L << cube(c);
            return r;
        }

        int way(int w) { return 2 * to[w / 2] + (about[w / 2] ? 1 - w % 2 : w % 2); }

        int ways(int ways) {
            int r = 0;
            for (int w = 0; w < 6; w++) if ((ways >> w & 1) == 1) r |= 1 << way(w);
            return r;
        }

        int height(int axis, int h) { return about[axis] ? n - h : h; }

        boolean keepsOrder(int ways) {
            int last = -1;
            for (int w = 0; w < 6; w++) if ((ways >> w & 1) == 1) {
                if (way(w) < last) return false;
                last = way(w);
            }
            return true;
        }

        Told of(Told t) {
            Told r = new Told();
            r.n = t.n;
            r.figure = set(t.figure);
            r.pieces = new long[t.pieces.length];
            for (int p = 0; p < t.pieces.length; p++) r.pieces[p] = set(t.pieces[p]);
            r.shows = new int[t.shows.length];
            for (int c = 0; c < t.shows.length; c++) r.shows[cube(c)] = t.shows[c];
            r.moves = new int[8][];
            for (int s = 0; s < 8; s++) r.moves[s] = new int[] {t.moves[s][0], way(t.moves[s][1]), way(t.moves[s][2])};
            r.steps = t.steps;
            r.wear = t.wear;
            r.heavy = t.heavy;
            return r;
        }
    }

    private static void turned(Told t, Turning g) {
        Told u = g.of(t);
        turnedSets(t, g, t.told(), u.told());
        turnedMoves(g, t.told(), u.told());
        turnedPieces(t, g, t.told(), u.told());
        turnedWays(g, t.told(), u.told());
        turnedAxes(t, g, t.told(), u.told());
    }

    private static void turnedSets(Told t, Turning g, MouldThatComesOff x, MouldThatComesOff y) {
        for (int what = 0; what <= 3; what++) same("cubes(" + what + ")", y.cubes(what), g.set(x.cubes(what)));
        for (int c = 0; c < t.shows.length; c++) {
            int free = x.free(c);
            same("free()", y.free(g.cube(c)), free < 0 ? free : g.ways(free));
        }
        long set = someBits() & someBits();
        same("whole()", y.whole(g.set(set)), x.whole(set));
        same("parts()", y.parts(), x.parts());
        same("needed()", y.needed(), g.set(x.needed()));
        same("casts()", y.casts(), x.casts());
        int by = x.wrong(true);
        same("wrong(true)", y.wrong(true), by);
        if (by != 5) same("wrong(false)", y.wrong(false), x.wrong(false));
    }

    private static void turnedMoves(Turning g, MouldThatComesOff x, MouldThatComesOff y) {
        for (int s = 0; s < 8; s++) {
            int kind = x.holds(s) - 10;
            if (kind == 1 || kind == 3 || kind == 4) same("says()", y.says(s, kind), x.says(s, kind));
            same("helps()", y.helps(s), x.helps(s));
            for (int k = 0; k <= 9; k++) {
                long set = k % 2 == 0 ? someBits() & someBits() & someBits() : 1L << below(64);
                same("comes()", y.comes(s, g.set(set)), x.comes(s, set));
                same("slide()", y.slide(s, g.set(set), k), g.set(x.slide(s, set, k)));
            }
        }
    }

    private static void turnedPieces(Told t, Turning g, MouldThatComesOff x, MouldThatComesOff y) {
        for (int p = 0; p < t.pieces.length; p++) {
            same("setOf()", y.setOf(p), g.set(x.setOf(p)));
            same("spare()", y.spare(p), g.set(x.spare(p)));
            same("faces()", y.faces(p), x.faces(p));
            same("loose()", y.loose(p), x.loose(p));
            for (int s = 0; s < 8; s++) same("bars()", y.bars(s, p), x.bars(s, p));
            for (int axis = 0; axis < 3; axis++) same("thin()", y.thin(p, g.to[axis]), x.thin(p, axis));
            for (int what = 0; what <= 1; what++) same("order()", y.order(p, what), x.order(p, what));
        }
        same("ring()", y.ring(), x.ring());
        if (t.pieces.length == 0) return;
        int p = below(t.pieces.length);
        same("grow()", y.grow(p), x.grow(p));
        same("setOf() behind grow()", y.setOf(p), g.set(x.setOf(p)));
    }

    private static void turnedWays(Turning g, MouldThatComesOff x, MouldThatComesOff y) {
        int fewest = x.fewest();
        same("how many FEWEST are", fewest < 0 ? y.fewest() : Integer.bitCount(y.fewest()), fewest < 0 ? fewest : Integer.bitCount(fewest));
        for (int ways = 0; ways < 64; ways++) {
            same("serves()", y.serves(g.ways(ways)), x.serves(ways));
            // which of its WAYS is the least one of a CUBE is the same only then
            if (!g.keepsOrder(ways)) continue;
            for (int what = 0; what <= 1; what++) same("parted()", y.parted(g.ways(ways), what), x.parted(ways, what));
        }
        int ways = below(64);
        if (!g.keepsOrder(ways) || x.serves(ways) == 0) return;
        int count = x.make(ways);
        same("make()", y.make(g.ways(ways)), count);
        Set<Long> from = new TreeSet<>();
        Set<Long> to = new TreeSet<>();
        for (int p = 0; p < count; p++) {
            from.add(g.set(x.setOf(p)));
            to.add(y.setOf(p));
        }
        same("the PARTS", from.equals(to) ? 1 : 0, 1);
    }

    private static void turnedAxes(Told t, Turning g, MouldThatComesOff x, MouldThatComesOff y) {
        int least = 99;
        for (int axis = 0; axis < 3; axis++) {
            int to = g.to[axis];
            same("line()", y.line(to), x.line(axis));
            same("tunnels()", y.tunnels(to), x.tunnels(axis));
            same("alike()", y.alike() >> to & 1, x.alike() >> axis & 1);
            int heights = x.halves(axis);
            int want = 0;
            for (int h = 0; h <= t.n; h++) if ((heights >> h & 1) == 1) want |= 1 << g.height(axis, h);
            same("halves()", y.halves(to), want);
            for (int h = 1; h < t.n; h++) {
                same("cut()", y.cut(to, g.height(axis, h)), x.cut(axis, h));
                least = Math.min(least, x.cut(axis, h));
            }
        }
        int best = y.best();
        same("how good the BEST CUT is", y.cut(best / 10, best % 10), least);
    }

    // ---- mirror() and turn() of the class against what is told turned ----

    private static void byTheClassItself(Told t) {
        int axis = below(3);
        boolean[] about = {false, false, false};
        about[axis] = true;
        MouldThatComesOff x = t.told();
        same("mirror()", x.mirror(axis), 1);
        likeTold(t, x, new Turning(t.n, new int[] {0, 1, 2}, about));
        same("mirror() once more", x.mirror(axis), 1);
        likeTold(t, x, new Turning(t.n, new int[] {0, 1, 2}, new boolean[3]));
        // what is at u comes to v, turned about; what is at v comes to u
        int u = axis == 0 ? 1 : 0;
        int v = axis == 2 ? 1 : 2;
        int[] to = {0, 1, 2};
        to[u] = v;
        to[v] = u;
        about = new boolean[3];
        about[u] = true;
        x = t.told();
        same("turn()", x.turn(axis), 1);
        likeTold(t, x, new Turning(t.n, to, about));
        for (int k = 0; k < 3; k++) same("turn() once more", x.turn(axis), 1);
        likeTold(t, x, new Turning(t.n, new int[] {0, 1, 2}, new boolean[3]));
    }

    /** All that is told of it, but for the MOVES, which stay. */
    private static void likeTold(Told t, MouldThatComesOff x, Turning g) {
        List<Long> got = new ArrayList<>();
        List<Long> want = new ArrayList<>();
        got.add(x.cubes(0));
        want.add(g.set(t.figure));
        for (int p = 0; p < t.pieces.length; p++) {
            got.add(x.setOf(p));
            want.add(g.set(t.pieces[p]));
        }
        for (int c = 0; c < t.shows.length; c++) {
            int at = g.cube(c);
            int shows = x.ask(0, at, 5);
            x.ask(0, at, Math.max(0, shows));
            got.add((long) shows);
            want.add((long) t.shows[c]);
        }
        for (int s = 0; s < 8; s++) {
            got.add((long) x.says(s, 0));
            want.add((long) t.moves[s][1]);
        }
        for (int k = 0; k < want.size(); k++) same("telling " + k + " of it", got.get(k), want.get(k));
    }
}
