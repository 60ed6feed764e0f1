import java.util.Arrays;

/** A figure of whole cubes in a block, and a mould of pieces that have to slide off it one after the other. */
public final class MouldThatComesOff {
    public static final int NONE = -1;

    private static final int FINE = 0;
    private static final int BAD = -2;
    private static final int OTHER = -3;
    private static final int NOTHING = -4;
    private static final int STUCK = -5;
    private static final int FULL = -6;
    private static final int REFUSALS = 5;

    private static final int LEAST_SIZE = 2;
    private static final int FIRST_SIZE = 3;
    private static final int MOST_SIZE = 4;
    private static final int MOST_CUBES = 64;
    private static final int AXES = 3;
    private static final int WAYS = 6;
    private static final int WAY_SETS = 64;
    private static final int ALL_WAYS = 63;

    private static final int MOST_PIECES = 8;
    private static final int SHELVES = 8;
    private static final int MOST_ELEMENTS = 40;
    private static final int MOST_SHOWS = 9;
    private static final int MOST_HEAVY = 64;
    private static final int MOST_WEAR = 999;
    private static final int TAPE_ROOM = 250;
    private static final int MOST_STEPS = 9;
    private static final int COUNT_OF_NEVER = 9;
    private static final int ENDLESS_CASTS = 999;
    private static final int READ_REFUSED = -20;
    private static final int KINDS_OF_WRONG = 5;

    private static final int BYTES = 0;
    private static final int SHORTS = 1;
    private static final int INTS = 2;
    private static final int BOOLEANS = 4;

    private static final int MOVE = 0;
    private static final int STRAIGHT = 1;
    private static final int LIFT = 2;
    private static final int CORE = 3;
    private static final int HALF = 4;
    private static final int FAR = 5;
    private static final int HELD_MOVE = 10;

    private final Mould now = new Mould();
    private final Mould kept = new Mould();
    private final Mould draft = new Mould();
    private boolean hasKept = false;
    private final Shelf[] shelves = new Shelf[SHELVES];
    private final Tape tape = new Tape();
    private final Leaving leaving = new Leaving();
    private final int[] refused = new int[REFUSALS];
    private final int[] orderPieces = new int[MOST_PIECES];
    private final int[] orderShelves = new int[MOST_PIECES];
    private int orderCount = 0;
    private int orderRing = 0;

    public MouldThatComesOff() {
        for (int s = 0; s < shelves.length; s++) {
            shelves[s] = new Shelf();
        }
    }

    // ---- shelves ----

    public int row(int s, int sort, int n) {
        if (!isShelf(s) || sort < BYTES || sort > BOOLEANS || n < 0 || n > MOST_ELEMENTS) {
            return refuse(BAD);
        }
        shelves[s].held = sort;
        shelves[s].row.become(sort, n);
        return 1;
    }

    public int set(int s, int i, long v) {
        int refusal = rowRefusal(s);
        if (refusal != FINE) {
            return refuse(refusal);
        }
        Row row = shelves[s].row;
        if (i < 0 || i >= row.length) {
            return refuse(BAD);
        }
        row.elements[i] = row.fitted(v);
        return 1;
    }

    public int copy(int p, int q, int i, int j, int n) {
        if (!isShelf(p) || !isShelf(q)) {
            return refuse(BAD);
        }
        Shelf from = shelves[p];
        Shelf to = shelves[q];
        if (from.isMove() || to.isMove()) {
            return refuse(OTHER);
        }
        if (from.isRow() && to.isRow() && from.held != to.held) {
            return refuse(OTHER);
        }
        if (!from.isRow() || !to.isRow()) {
            return refuse(NOTHING);
        }
        if (!from.row.hasRun(i, n) || !to.row.hasRun(j, n)) {
            return refuse(BAD);
        }
        System.arraycopy(from.row.elements, i, to.row.elements, j, n);
        return n;
    }

    public long element(int s, int i) {
        if (!isShelf(s) || !shelves[s].isRow()) {
            return 0L;
        }
        Row row = shelves[s].row;
        return i >= 0 && i < row.length ? row.elements[i] : 0L;
    }

    public int holds(int s) {
        return isShelf(s) ? shelves[s].held : NONE;
    }

    public int move(int s, int kind, int a, int b) {
        if (!isShelf(s) || kind < STRAIGHT || kind > FAR || !isWay(a) || !isWay(b)) {
            return refuse(BAD);
        }
        shelves[s].held = HELD_MOVE + kind;
        shelves[s].move.become(kind, a, b);
        return 1;
    }

    public int says(int s, int kind) {
        int refusal = kind < MOVE || kind > FAR ? BAD : moveRefusal(s);
        if (refusal != FINE) {
            return refuse(refusal);
        }
        Move move = shelves[s].move;
        if (!move.isOfKind(kind)) {
            return refuse(OTHER);
        }
        switch (kind) {
            case MOVE:
                return move.a;
            case LIFT:
            case FAR:
                return move.b;
            default:
                return countComing(move, now.emptyCubes());
        }
    }

    // ---- the figure and the pieces ----

    public int size(int n) {
        if (n < LEAST_SIZE || n > MOST_SIZE) {
            return refuse(BAD);
        }
        int was = now.block.n;
        now.clearTo(n);
        return was;
    }

    public int solid(long set, boolean is) {
        long was = now.figure;
        now.figure = is ? was | set & now.block.all : was & ~set;
        return Long.bitCount(was ^ now.figure);
    }

    public int figure(int s) {
        int refusal = rowRefusal(s);
        if (refusal != FINE) {
            return refuse(refusal);
        }
        now.figure = shelves[s].row.notZero() & now.block.all;
        return Long.bitCount(now.figure);
    }

    public int piece(long set) {
        if (now.pieces >= MOST_PIECES) {
            return refuse(FULL);
        }
        now.addPiece(set & now.block.all);
        return now.pieces - 1;
    }

    public int alter(int piece, long set) {
        int refusal = onPieceRefusal(piece);
        if (refusal != FINE) {
            return refuse(refusal);
        }
        int had = Long.bitCount(now.sets[piece]);
        now.sets[piece] = set & now.block.all;
        return had;
    }

    public int ask(int what, int cube, int v) {
        switch (what) {
            case 0:
                return askShows(cube, v);
            case 1:
                return askHeavy(v);
            case 2:
                return askWear(v);
            default:
                return refuse(BAD);
        }
    }

    // ---- the tape ----

    public int feed(int v, int n) {
        if (n < 1 || n > 4) {
            return refuse(BAD);
        }
        if (tape.size + n > TAPE_ROOM) {
            return refuse(FULL);
        }
        for (int k = n - 1; k >= 0; k--) {
            tape.add(v >>> 8 * k & 255);
        }
        return tape.size;
    }

    public int wipe() {
        int had = tape.size;
        tape.size = 0;
        return had;
    }

    public int read() {
        draft.takeFrom(now);
        int statements = Reader.readAll(tape, draft);
        int fault = tape.start;
        tape.size = 0;
        if (statements == NONE) {
            refuse(BAD);
            return READ_REFUSED - fault;
        }
        now.takeFrom(draft);
        return statements;
    }

    // ---- sets ----

    public long cubes(int what) {
        switch (what) {
            case 0:
                return now.figure;
            case 1:
                return now.emptyCubes();
            case 2:
                return lookAtFigure().neverFree();
            case 3:
                return now.inPieces(now.off);
            default:
                return 0L;
        }
    }

    public long setOf(int piece) {
        return isPiece(piece) ? now.sets[piece] : 0L;
    }

    public int whole(long set) {
        return now.block.isOnePart(set & now.block.all) ? 1 : 0;
    }

    public int parts() {
        return now.block.countParts(now.figure);
    }

    public int free(int cube) {
        if (cube < 0 || cube >= now.block.count) {
            return refuse(BAD);
        }
        if ((now.figure >>> cube & 1L) != 0L) {
            return refuse(STUCK);
        }
        return lookAtFigure().waysOf(1L << cube);
    }

    public int comes(int s, long set) {
        int refusal = moveRefusal(s);
        if (refusal != FINE) {
            return refuse(refusal);
        }
        return shelves[s].move.takes(now.block, set & now.block.all, now.figure) ? 1 : 0;
    }

    // ---- the parting ----

    public int wrong(boolean by) {
        for (int kind = 1; kind <= KINDS_OF_WRONG; kind++) {
            int place = now.wrongPlace(kind);
            if (place != NONE) {
                return by ? kind : place;
            }
        }
        return by ? 0 : NONE;
    }

    public int loose(int piece) {
        int refusal = onPieceRefusal(piece);
        return refusal != FINE ? refuse(refusal) : looseBy(piece, now.off);
    }

    public int bars(int s, int piece) {
        int refusal = isPiece(piece) ? moveRefusal(s) : BAD;
        if (refusal == FINE) {
            refusal = onPieceRefusal(piece);
        }
        if (refusal != FINE) {
            return refuse(refusal);
        }
        int barring = 0;
        for (int p = 0; p < now.pieces; p++) {
            boolean counts = p != piece && !now.isOff(p);
            if (counts && !shelves[s].move.takes(now.block, now.sets[piece], now.sets[p])) {
                barring |= 1 << p;
            }
        }
        return barring;
    }

    public int order(int i, int what) {
        if (what < 0 || what > 1) {
            return refuse(BAD);
        }
        findOrder();
        if (i < 0 || i >= orderCount) {
            return NONE;
        }
        return what == 0 ? orderPieces[i] : orderShelves[i];
    }

    public int ring() {
        findOrder();
        return orderRing;
    }

    // ---- what can be ----

    public int serves(int ways) {
        if (!isWaySet(ways)) {
            return refuse(BAD);
        }
        return lookAtFigure().suffices(ways) ? 1 : 0;
    }

    public int fewest() {
        int ways = lookAtFigure().fewestWays();
        return ways == NONE ? refuse(STUCK) : ways;
    }

    public int parted(int ways, int what) {
        if (!isWaySet(ways) || what < 0 || what > 1) {
            return refuse(BAD);
        }
        if (!lookAtFigure().suffices(ways)) {
            return refuse(STUCK);
        }
        leaving.share(ways);
        return what == 0 ? leaving.countOwnedParts(now.block) : leaving.seam(now);
    }

    public int hidden() {
        int ways = lookAtFigure().leastSeamWays(now);
        return ways == NONE ? refuse(STUCK) : ways;
    }

    public int make(int ways) {
        if (!isWaySet(ways)) {
            return refuse(BAD);
        }
        if (!lookAtFigure().suffices(ways)) {
            return refuse(STUCK);
        }
        leaving.share(ways);
        if (leaving.countOwnedParts(now.block) > MOST_PIECES) {
            return refuse(FULL);
        }
        leaving.layPieces(now);
        return now.pieces;
    }

    public int halves(int axis) {
        if (!isAxis(axis)) {
            return refuse(BAD);
        }
        lookAtFigure();
        int heights = 0;
        for (int h = 0; h <= now.block.n; h++) {
            if (leaving.planeDoes(axis, now.block.below(axis, h))) {
                heights |= 1 << h;
            }
        }
        return heights;
    }

    public int line(int axis) {
        if (!isAxis(axis)) {
            return refuse(BAD);
        }
        Block block = now.block;
        long gaps = block.behind(now.figure, 2 * axis) & block.behind(now.figure, 2 * axis + 1) & ~now.figure;
        return gaps == 0L ? 1 : 0;
    }

    public int cut(int axis, int height) {
        if (!isAxis(axis) || height < 1 || height >= now.block.n) {
            return refuse(BAD);
        }
        return countCut(axis, height);
    }

    public int best() {
        int found = NONE;
        int least = 0;
        for (int axis = 0; axis < AXES; axis++) {
            for (int height = 1; height < now.block.n; height++) {
                int count = countCut(axis, height);
                if (found == NONE || count < least) {
                    least = count;
                    found = 10 * axis + height;
                }
            }
        }
        return found;
    }

    public int helps(int s) {
        int refusal = moveRefusal(s);
        if (refusal != FINE) {
            return refuse(refusal);
        }
        return countComing(shelves[s].move, lookAtFigure().neverFree());
    }

    public long slide(int s, long set, int k) {
        int refusal = k < 0 || k > MOST_STEPS ? BAD : moveRefusal(s);
        if (refusal != FINE) {
            return refuse(refusal);
        }
        return shelves[s].move.carried(now.block, set & now.block.all, k);
    }

    // ---- the figure looked at, mirrored, turned ----

    public int tunnels(int axis) {
        if (!isAxis(axis)) {
            return refuse(BAD);
        }
        Block block = now.block;
        long shadow = (now.figure | block.behind(now.figure, 2 * axis)) & block.layer(axis, 0);
        return block.n * block.n - Long.bitCount(shadow);
    }

    public long needed() {
        long found = 0L;
        for (int cube = 0; cube < now.block.count; cube++) {
            long bit = 1L << cube;
            if ((now.figure & bit) != 0L && now.block.holdsTogether(now.figure, bit)) {
                found |= bit;
            }
        }
        return found;
    }

    public int alike() {
        int axes = 0;
        for (int axis = 0; axis < AXES; axis++) {
            if (now.block.mirrored(now.figure, axis) == now.figure) {
                axes |= 1 << axis;
            }
        }
        return axes;
    }

    public int mirror(int axis) {
        if (!isAxis(axis)) {
            return refuse(BAD);
        }
        now.mirrorAll(axis);
        return 1;
    }

    public int turn(int axis) {
        if (!isAxis(axis)) {
            return refuse(BAD);
        }
        now.turnAll(axis);
        return 1;
    }

    // ---- single pieces ----

    public int thin(int piece, int axis) {
        if (!isPiece(piece) || !isAxis(axis)) {
            return refuse(BAD);
        }
        return now.block.thinnestRow(now.sets[piece], axis);
    }

    public long spare(int piece) {
        return isPiece(piece) ? now.spareBeside(piece) : 0L;
    }

    public int grow(int piece) {
        int refusal = onPieceRefusal(piece);
        if (refusal != FINE) {
            return refuse(refusal);
        }
        long more = now.spareBeside(piece);
        now.sets[piece] |= more;
        return Long.bitCount(more);
    }

    public int faces(int piece) {
        return isPiece(piece) ? now.countFaces(piece) : refuse(BAD);
    }

    public int casts() {
        int most = 0;
        for (int p = 0; p < now.pieces; p++) {
            if (!now.isOff(p)) {
                most = Math.max(most, now.countFaces(p));
            }
        }
        return most == 0 ? ENDLESS_CASTS : now.wear / most;
    }

    // ---- the mould being taken off ----

    public int step() {
        int piece = firstLoose(now.off);
        if (piece == NONE) {
            return refuse(STUCK);
        }
        now.off |= 1 << piece;
        return piece;
    }

    public int again() {
        int were = Integer.bitCount(now.off);
        now.off = 0;
        return were;
    }

    public int image() {
        kept.takeFrom(now);
        hasKept = true;
        return 1;
    }

    public int back() {
        if (!hasKept) {
            return refuse(STUCK);
        }
        now.takeFrom(kept);
        return 1;
    }

    public int status(int what) {
        switch (what) {
            case 0:
                return now.block.n;
            case 1:
                return Long.bitCount(now.figure);
            case 2:
                return now.pieces;
            case 3:
                return Integer.bitCount(now.off);
            case 4:
                return now.heavy;
            case 5:
                return now.wear;
            case 6:
                return tape.size;
            case 7:
                return countHeld();
            default:
                return what >= 12 && what < 12 + REFUSALS ? refused[what - 12] : NONE;
        }
    }

    // ---- what several calls need ----

    private int refuse(int refusal) {
        int place = BAD - refusal;
        if (place >= 0 && place < REFUSALS) {
            refused[place]++;
        }
        return refusal;
    }

    private static boolean isShelf(int s) {
        return s >= 0 && s < SHELVES;
    }

    private static boolean isWay(int way) {
        return way >= 0 && way < WAYS;
    }

    private static boolean isWaySet(int ways) {
        return ways >= 0 && ways < WAY_SETS;
    }

    private static boolean isAxis(int axis) {
        return axis >= 0 && axis < AXES;
    }

    private boolean isPiece(int piece) {
        return piece >= 0 && piece < now.pieces;
    }

    private int rowRefusal(int s) {
        if (!isShelf(s)) {
            return BAD;
        }
        if (shelves[s].isMove()) {
            return OTHER;
        }
        return shelves[s].isRow() ? FINE : NOTHING;
    }

    private int moveRefusal(int s) {
        if (!isShelf(s)) {
            return BAD;
        }
        if (shelves[s].isRow()) {
            return OTHER;
        }
        return shelves[s].isMove() ? FINE : NOTHING;
    }

    private int onPieceRefusal(int piece) {
        if (!isPiece(piece)) {
            return BAD;
        }
        return now.isOff(piece) ? STUCK : FINE;
    }

    private int askShows(int cube, int v) {
        if (cube < 0 || cube >= now.block.count || v < 0 || v > MOST_SHOWS) {
            return refuse(BAD);
        }
        int was = now.showsOf(cube);
        now.putShows(cube, v);
        return was;
    }

    private int askHeavy(int v) {
        if (v < 1 || v > MOST_HEAVY) {
            return refuse(BAD);
        }
        int was = now.heavy;
        now.heavy = v;
        return was;
    }

    private int askWear(int v) {
        if (v < 1 || v > MOST_WEAR) {
            return refuse(BAD);
        }
        int was = now.wear;
        now.wear = v;
        return was;
    }

    private int countHeld() {
        int count = 0;
        for (int s = 0; s < SHELVES; s++) {
            if (shelves[s].held != NONE) {
                count++;
            }
        }
        return count;
    }

    private Leaving lookAtFigure() {
        leaving.look(now.block, now.figure);
        return leaving;
    }

    private int countComing(Move move, long cubes) {
        int count = 0;
        for (int cube = 0; cube < now.block.count; cube++) {
            long bit = 1L << cube;
            if ((cubes & bit) != 0L && move.takes(now.block, bit, now.figure)) {
                count++;
            }
        }
        return count;
    }

    private int countCut(int axis, int height) {
        long below = now.block.below(axis, height);
        return countForPart(now.figure & below) + countForPart(now.figure & ~below);
    }

    private int countForPart(long part) {
        leaving.look(now.block, part);
        int ways = leaving.fewestWays();
        return ways == NONE ? COUNT_OF_NEVER : Integer.bitCount(ways);
    }

    /** The first SHELF by which a PIECE comes off, when those of the bits off are gone. */
    private int looseBy(int piece, int off) {
        long others = now.figure | now.inPieces(off | 1 << piece);
        for (int s = 0; s < SHELVES; s++) {
            if (shelves[s].isMove() && shelves[s].move.takes(now.block, now.sets[piece], others)) {
                return s;
            }
        }
        return NONE;
    }

    private int firstLoose(int off) {
        for (int p = 0; p < now.pieces; p++) {
            if ((off >> p & 1) == 0 && looseBy(p, off) != NONE) {
                return p;
            }
        }
        return NONE;
    }

    private void findOrder() {
        int off = now.off;
        orderCount = 0;
        for (int k = 0; k < MOST_PIECES; k++) {
            int piece = firstLoose(off);
            if (piece == NONE) {
                break;
            }
            orderPieces[k] = piece;
            orderShelves[k] = looseBy(piece, off);
            orderCount = k + 1;
            off |= 1 << piece;
        }
        orderRing = (1 << now.pieces) - 1 & ~off;
    }

    /** The block of a SIZE: its layers, and what becomes of sets of its CUBES. */
    private static final class Block {
        int n;
        int count;
        long all;
        private final int[] strides = new int[AXES];
        private final long[] layers = new long[AXES * MOST_SIZE];
        private final long[] ends = new long[WAYS];

        Block() {
            become(FIRST_SIZE);
        }

        void become(int size) {
            n = size;
            count = size * size * size;
            // a shift by all 64 bits would be one by none
            all = count == MOST_CUBES ? -1L : (1L << count) - 1L;
            strides[0] = 1;
            strides[1] = size;
            strides[2] = size * size;
            Arrays.fill(layers, 0L);
            long bit = 1L;
            for (int z = 0; z < size; z++) {
                for (int y = 0; y < size; y++) {
                    for (int x = 0; x < size; x++) {
                        layers[x] |= bit;
                        layers[MOST_SIZE + y] |= bit;
                        layers[2 * MOST_SIZE + z] |= bit;
                        bit <<= 1;
                    }
                }
            }
            for (int axis = 0; axis < AXES; axis++) {
                ends[2 * axis] = layer(axis, size - 1);
                ends[2 * axis + 1] = layer(axis, 0);
            }
        }

        long layer(int axis, int height) {
            return layers[MOST_SIZE * axis + height];
        }

        long below(int axis, int height) {
            long found = 0L;
            for (int k = 0; k < height; k++) {
                found |= layer(axis, k);
            }
            return found;
        }

        int place(int cube, int axis) {
            int found = 0;
            for (int k = 0; k < n; k++) {
                if ((layer(axis, k) >>> cube & 1L) != 0L) {
                    found = k;
                }
            }
            return found;
        }

        /** The CUBES whose places lie, on each axis, between those of two CUBES, in whichever order. */
        long boxOf(int a, int b) {
            long found = all;
            for (int axis = 0; axis < AXES; axis++) {
                int low = Math.min(place(a, axis), place(b, axis));
                int high = Math.max(place(a, axis), place(b, axis));
                found &= below(axis, high + 1) & ~below(axis, low);
            }
            return found;
        }

        long endTowards(int way) {
            return ends[way];
        }

        long shifted(long set, int way) {
            long staying = set & ~ends[way];
            int stride = strides[way >> 1];
            return (way & 1) == 0 ? staying << stride : staying >>> stride;
        }

        /** The CUBES that have one of a set ahead of them by a WAY. */
        long behind(long set, int way) {
            long found = 0L;
            long at = set;
            for (int k = 1; k < n; k++) {
                at = shifted(at, way ^ 1);
                found |= at;
            }
            return found;
        }

        long beside(long set) {
            long found = 0L;
            for (int way = 0; way < WAYS; way++) {
                found |= shifted(set, way);
            }
            return found;
        }

        /** The row along an axis that a CUBE lies in: what its layers across the two other axes share. */
        long rowThrough(long cube, int axis) {
            long found = all;
            for (int k = 0; k < AXES * MOST_SIZE; k++) {
                boolean across = k < MOST_SIZE * axis || k >= MOST_SIZE * (axis + 1);
                if (across && (layers[k] & cube) != 0L) {
                    found &= layers[k];
                }
            }
            return found;
        }

        long partAround(long set, long seed) {
            long part = seed & set;
            for (int k = 0; k < MOST_CUBES; k++) {
                long more = part | beside(part) & set;
                if (more == part) {
                    break;
                }
                part = more;
            }
            return part;
        }

        boolean isOnePart(long set) {
            return partAround(set, set & -set) == set;
        }

        int countParts(long set) {
            int parts = 0;
            long rest = set;
            for (int k = 0; k < MOST_CUBES && rest != 0L; k++) {
                rest &= ~partAround(rest, rest & -rest);
                parts++;
            }
            return parts;
        }

        /** Whether a set falls into more parts without one of its CUBES: its neighbours then don't hang together. */
        boolean holdsTogether(long set, long cube) {
            long rest = set & ~cube;
            long near = beside(cube) & rest;
            return (near & ~partAround(rest, near & -near)) != 0L;
        }

        int thinnestRow(long set, int axis) {
            int least = 0;
            for (int cube = 0; cube < count; cube++) {
                long bit = 1L << cube;
                if ((set & bit) == 0L) {
                    continue;
                }
                int inRow = Long.bitCount(set & rowThrough(bit, axis));
                if (least == 0 || inRow < least) {
                    least = inRow;
                }
            }
            return least;
        }

        long mirrored(long set, int axis) {
            long image = 0L;
            for (int k = 0; k < n; k++) {
                image |= shiftedBy(set & layer(axis, k), (n - 1 - 2 * k) * strides[axis]);
            }
            return image;
        }

        long turned(long set, int axis) {
            int u = axis == 0 ? 1 : 0;
            int v = axis == 2 ? 1 : 2;
            long image = 0L;
            for (int i = 0; i < n; i++) {
                for (int j = 0; j < n; j++) {
                    long line = set & layer(u, i) & layer(v, j);
                    image |= shiftedBy(line, (j - i) * strides[u] + (n - 1 - i - j) * strides[v]);
                }
            }
            return image;
        }

        private static long shiftedBy(long set, int by) {
            return by >= 0 ? set << by : set >>> -by;
        }
    }

    /** All that image() keeps: the block, THE FIGURE, the PIECES and the numbers asked for. */
    private static final class Mould {
        private static final int SHOWS_BITS = 4;

        final Block block = new Block();
        long figure = 0L;
        int pieces = 0;
        int off = 0;
        int heavy = MOST_HEAVY;
        int wear = 100;
        final long[] sets = new long[MOST_PIECES];
        // set k has the CUBES whose SHOWS have bit k: so they are summed, mirrored and turned as sets
        private final long[] shows = new long[SHOWS_BITS];

        Mould() {
            shows[0] = block.all;
        }

        void clearTo(int size) {
            block.become(size);
            figure = 0L;
            dropPieces();
            Arrays.fill(shows, 0L);
            shows[0] = block.all;
        }

        void takeFrom(Mould other) {
            if (block.n != other.block.n) {
                block.become(other.block.n);
            }
            figure = other.figure;
            pieces = other.pieces;
            off = other.off;
            heavy = other.heavy;
            wear = other.wear;
            System.arraycopy(other.sets, 0, sets, 0, MOST_PIECES);
            System.arraycopy(other.shows, 0, shows, 0, SHOWS_BITS);
        }

        void dropPieces() {
            pieces = 0;
            off = 0;
        }

        void addPiece(long set) {
            if (pieces < MOST_PIECES) {
                sets[pieces] = set;
                pieces++;
            }
        }

        void fillLast(long set) {
            if (pieces > 0) {
                sets[pieces - 1] |= set;
            }
        }

        boolean isOff(int piece) {
            return (off >> piece & 1) != 0;
        }

        long emptyCubes() {
            return block.all & ~figure;
        }

        long inPieces(int without) {
            long found = 0L;
            for (int p = 0; p < pieces; p++) {
                if ((without >> p & 1) == 0) {
                    found |= sets[p];
                }
            }
            return found;
        }

        int showsOf(int cube) {
            return sumOfShows(1L << cube);
        }

        void putShows(int cube, int v) {
            long bit = 1L << cube;
            for (int k = 0; k < SHOWS_BITS; k++) {
                shows[k] = (v >> k & 1) != 0 ? shows[k] | bit : shows[k] & ~bit;
            }
        }

        int sumOfShows(long set) {
            int sum = 0;
            for (int k = 0; k < SHOWS_BITS; k++) {
                sum += Long.bitCount(set & shows[k]) << k;
            }
            return sum;
        }

        /** The first PIECE or CUBE at which THE PARTING is WRONG by one of the five kinds. */
        int wrongPlace(int kind) {
            if (kind == KINDS_OF_WRONG) {
                return firstBareCube();
            }
            for (int p = 0; p < pieces; p++) {
                if (!isOff(p) && isWrong(kind, p)) {
                    return p;
                }
            }
            return NONE;
        }

        private boolean isWrong(int kind, int piece) {
            long set = sets[piece];
            switch (kind) {
                case 1:
                    return (set & figure) != 0L;
                case 2:
                    return (set & inPieces(off | -1 << piece)) != 0L;
                case 3:
                    return set == 0L || !block.isOnePart(set);
                default:
                    return Long.bitCount(set) > heavy;
            }
        }

        private int firstBareCube() {
            long bare = emptyCubes() & ~inPieces(0);
            if (off != 0 || bare == 0L) {
                return NONE;
            }
            return Long.bitCount((bare & -bare) - 1L);
        }

        long spareBeside(int piece) {
            return block.beside(sets[piece]) & emptyCubes() & ~inPieces(off);
        }

        int countFaces(int piece) {
            int count = 0;
            for (int way = 0; way < WAYS; way++) {
                count += Long.bitCount(block.shifted(sets[piece], way) & figure);
            }
            return count;
        }

        void mirrorAll(int axis) {
            figure = block.mirrored(figure, axis);
            for (int p = 0; p < pieces; p++) {
                sets[p] = block.mirrored(sets[p], axis);
            }
            for (int k = 0; k < SHOWS_BITS; k++) {
                shows[k] = block.mirrored(shows[k], axis);
            }
        }

        void turnAll(int axis) {
            figure = block.turned(figure, axis);
            for (int p = 0; p < pieces; p++) {
                sets[p] = block.turned(sets[p], axis);
            }
            for (int k = 0; k < SHOWS_BITS; k++) {
                shows[k] = block.turned(shows[k], axis);
            }
        }
    }

    /** By which WAYS the empty CUBES around a figure could leave, and how they are shared out among WAYS. */
    private static final class Leaving {
        private long empty = 0L;
        private final long[] freeBy = new long[WAYS];
        private final long[] owned = new long[WAYS];

        void look(Block block, long figure) {
            empty = block.all & ~figure;
            for (int way = 0; way < WAYS; way++) {
                freeBy[way] = empty & ~block.behind(figure, way);
            }
        }

        int waysOf(long cube) {
            int ways = 0;
            for (int way = 0; way < WAYS; way++) {
                if ((freeBy[way] & cube) != 0L) {
                    ways |= 1 << way;
                }
            }
            return ways;
        }

        private long freeByOneOf(int ways) {
            long found = 0L;
            for (int way = 0; way < WAYS; way++) {
                if ((ways >> way & 1) != 0) {
                    found |= freeBy[way];
                }
            }
            return found;
        }

        long neverFree() {
            return empty & ~freeByOneOf(ALL_WAYS);
        }

        boolean suffices(int ways) {
            return freeByOneOf(ways) == empty;
        }

        /** Whether CUBES below a plane can all go by less, the others by more. */
        boolean planeDoes(int axis, long below) {
            long held = below & ~freeBy[2 * axis + 1] | ~below & ~freeBy[2 * axis];
            return (empty & held) == 0L;
        }

        int fewestWays() {
            int found = NONE;
            int least = WAYS + 1;
            for (int ways = 0; ways < WAY_SETS; ways++) {
                int count = Integer.bitCount(ways);
                if (count < least && suffices(ways)) {
                    least = count;
                    found = ways;
                }
            }
            return found;
        }

        int leastSeamWays(Mould mould) {
            int found = NONE;
            int least = 0;
            for (int ways = 0; ways < WAY_SETS; ways++) {
                if (!suffices(ways)) {
                    continue;
                }
                share(ways);
                int length = seam(mould);
                if (found == NONE || length < least) {
                    least = length;
                    found = ways;
                }
            }
            return found;
        }

        /** Each empty CUBE goes to the least of the WAYS by which it is free. */
        void share(int ways) {
            long rest = empty;
            for (int way = 0; way < WAYS; way++) {
                owned[way] = (ways >> way & 1) != 0 ? freeBy[way] & rest : 0L;
                rest &= ~owned[way];
            }
        }

        int countOwnedParts(Block block) {
            int count = 0;
            for (int way = 0; way < WAYS; way++) {
                count += block.countParts(owned[way]);
            }
            return count;
        }

        int seam(Mould mould) {
            Block block = mould.block;
            int sum = 0;
            for (int more = 0; more < WAYS; more += 2) {
                // of each pair the CUBE that has the other one more ahead of it
                long unlike = empty & block.shifted(empty, more + 1);
                for (int way = 0; way < WAYS; way++) {
                    unlike &= ~(owned[way] & block.shifted(owned[way], more + 1));
                }
                sum += mould.sumOfShows(unlike) + mould.sumOfShows(block.shifted(unlike, more));
            }
            return sum;
        }

        void layPieces(Mould mould) {
            mould.dropPieces();
            long rest = empty;
            for (int k = 0; k < MOST_PIECES && rest != 0L; k++) {
                long part = partOfLeast(mould.block, rest);
                mould.addPiece(part);
                rest &= ~part;
            }
        }

        private long partOfLeast(Block block, long rest) {
            long part = 0L;
            for (int way = 0; way < WAYS; way++) {
                part |= block.partAround(owned[way], rest & -rest);
            }
            return part;
        }
    }

    /** What one SHELF holds; its ROW and its MOVE are made once and used again. */
    private static final class Shelf {
        int held = NONE;
        final Row row = new Row();
        final Move move = new Move();

        boolean isRow() {
            return held >= BYTES && held <= BOOLEANS;
        }

        boolean isMove() {
            return held > HELD_MOVE;
        }
    }

    private static final class Row {
        private int sort = BYTES;
        int length = 0;
        final long[] elements = new long[MOST_ELEMENTS];

        void become(int newSort, int newLength) {
            sort = newSort;
            length = newLength;
            Arrays.fill(elements, 0L);
        }

        long fitted(long v) {
            switch (sort) {
                case BYTES:
                    return (byte) v;
                case SHORTS:
                    return (short) v;
                case INTS:
                    return (int) v;
                case BOOLEANS:
                    return v != 0L ? 1L : 0L;
                default:
                    return v;
            }
        }

        boolean hasRun(int from, int many) {
            return from >= 0 && from <= length && many >= 0 && many <= length - from;
        }

        long notZero() {
            long found = 0L;
            for (int i = 0; i < length; i++) {
                if (elements[i] != 0L) {
                    found |= 1L << i;
                }
            }
            return found;
        }
    }

    private static final class Move {
        private int kind = STRAIGHT;
        int a = 0;
        int b = 0;

        void become(int newKind, int newA, int newB) {
            kind = newKind;
            a = newA;
            b = newB;
        }

        boolean isOfKind(int wanted) {
            switch (wanted) {
                case MOVE:
                    return true;
                case STRAIGHT:
                    return kind == STRAIGHT || kind == CORE || kind == HALF;
                case LIFT:
                    return kind == LIFT || kind == FAR;
                default:
                    return kind == wanted;
            }
        }

        private int wayAt(int step) {
            switch (kind) {
                case LIFT:
                    return step <= 1 ? a : b;
                case FAR:
                    return step <= 2 ? a : b;
                default:
                    return a;
            }
        }

        private boolean suits(Block block, long set) {
            switch (kind) {
                case CORE:
                    return (set & ~block.rowThrough(set & -set, a >> 1)) == 0L;
                case HALF:
                    return (set & block.endTowards(a)) != 0L;
                default:
                    return true;
            }
        }

        /** Whether a set comes by this MOVE past others; where it lies at first is no step. */
        boolean takes(Block block, long set, long others) {
            if (set != 0L && !suits(block, set)) {
                return false;
            }
            long at = set;
            for (int k = 1; k <= MOST_STEPS && at != 0L; k++) {
                at = block.shifted(at, wayAt(k));
                if ((at & others) != 0L) {
                    return false;
                }
            }
            return true;
        }

        long carried(Block block, long set, int steps) {
            long at = set;
            for (int k = 1; k <= steps; k++) {
                at = block.shifted(at, wayAt(k));
            }
            return at;
        }
    }

    /** THE TAPE, and the TOKEN of it that is looked at. */
    private static final class Tape {
        static final int END = 0;
        static final int WORD = 1;
        static final int NUMBER = 2;
        static final int SIGN = 3;
        static final int UNKNOWN = 4;
        private static final int MOST_DIGITS = 3;

        int size = 0;
        int start = 0;
        int sort = END;
        private int end = 0;
        private final int[] bytes = new int[TAPE_ROOM];

        void add(int v) {
            if (size < TAPE_ROOM) {
                bytes[size] = v;
                size++;
            }
        }

        void rewind() {
            end = 0;
            advance();
        }

        void advance() {
            start = end;
            while (start < size && bytes[start] == ' ') {
                start++;
            }
            sort = start < size ? sortOf(bytes[start]) : END;
            end = start < size ? start + 1 : start;
            while (end < size && (sort == WORD || sort == NUMBER) && sortOf(bytes[end]) == sort) {
                end++;
            }
        }

        private static int sortOf(int v) {
            if (v >= 'a' && v <= 'z') {
                return WORD;
            }
            if (v >= '0' && v <= '9') {
                return NUMBER;
            }
            return v == ';' ? SIGN : UNKNOWN;
        }

        boolean isWord(String word) {
            if (sort != WORD || end - start != word.length()) {
                return false;
            }
            for (int k = 0; k < word.length(); k++) {
                if (bytes[start + k] != word.charAt(k)) {
                    return false;
                }
            }
            return true;
        }

        /** The NUMBER that is looked at; NONE: it is none, or too long. */
        int number() {
            if (sort != NUMBER || end - start > MOST_DIGITS) {
                return NONE;
            }
            int value = 0;
            for (int k = start; k < end; k++) {
                value = 10 * value + bytes[k] - '0';
            }
            return value;
        }
    }

    /** Reads STATEMENTS; at a FAULT the tape stays at the TOKEN that can't stand there. */
    private static final class Reader {
        private static final int BOX = 0;
        private static final int CUT = 1;
        private static final int FILL = 2;

        /** How many STATEMENTS there are; NONE: a FAULT. */
        static int readAll(Tape tape, Mould mould) {
            tape.rewind();
            for (int count = 1; count <= TAPE_ROOM; count++) {
                if (!statement(tape, mould)) {
                    return NONE;
                }
                if (tape.sort == Tape.END) {
                    return count;
                }
                if (tape.sort != Tape.SIGN) {
                    return NONE;
                }
                tape.advance();
            }
            return NONE;
        }

        private static boolean statement(Tape tape, Mould mould) {
            if (tape.isWord("size")) {
                return readSize(tape, mould);
            }
            if (tape.isWord("box")) {
                return readBox(tape, mould, BOX);
            }
            if (tape.isWord("cut")) {
                return readBox(tape, mould, CUT);
            }
            if (tape.isWord("piece")) {
                return readPiece(tape, mould);
            }
            if (tape.isWord("fill")) {
                return mould.pieces > 0 && readBox(tape, mould, FILL);
            }
            if (tape.isWord("shows")) {
                return readShows(tape, mould);
            }
            if (tape.isWord("heavy")) {
                return readHeavy(tape, mould);
            }
            return tape.isWord("wear") && readWear(tape, mould);
        }

        private static int numberWithin(Tape tape, int least, int most) {
            int value = tape.number();
            if (value < least || value > most) {
                return NONE;
            }
            tape.advance();
            return value;
        }

        private static boolean readSize(Tape tape, Mould mould) {
            tape.advance();
            int n = numberWithin(tape, LEAST_SIZE, MOST_SIZE);
            if (n != NONE) {
                mould.clearTo(n);
            }
            return n != NONE;
        }

        private static boolean readBox(Tape tape, Mould mould, int use) {
            int last = mould.block.count - 1;
            tape.advance();
            int a = numberWithin(tape, 0, last);
            if (a == NONE || !tape.isWord("to")) {
                return false;
            }
            tape.advance();
            int b = numberWithin(tape, 0, last);
            if (b == NONE) {
                return false;
            }
            long set = mould.block.boxOf(a, b);
            switch (use) {
                case BOX:
                    mould.figure |= set;
                    break;
                case CUT:
                    mould.figure &= ~set;
                    break;
                default:
                    mould.fillLast(set);
                    break;
            }
            return true;
        }

        private static boolean readPiece(Tape tape, Mould mould) {
            if (mould.pieces >= MOST_PIECES) {
                return false;
            }
            mould.addPiece(0L);
            tape.advance();
            return true;
        }

        private static boolean readShows(Tape tape, Mould mould) {
            tape.advance();
            int cube = numberWithin(tape, 0, mould.block.count - 1);
            if (cube == NONE) {
                return false;
            }
            int v = numberWithin(tape, 0, MOST_SHOWS);
            if (v != NONE) {
                mould.putShows(cube, v);
            }
            return v != NONE;
        }

        private static boolean readHeavy(Tape tape, Mould mould) {
            tape.advance();
            int v = numberWithin(tape, 1, MOST_HEAVY);
            if (v != NONE) {
                mould.heavy = v;
            }
            return v != NONE;
        }

        private static boolean readWear(Tape tape, Mould mould) {
            tape.advance();
            int v = numberWithin(tape, 1, MOST_WEAR);
            if (v != NONE) {
                mould.wear = v;
            }
            return v != NONE;
        }
    }
}
