/** For each promise of the document: ordinary calls, the edges that it names, and its refusals in their order. */
public final class PromisesTest {
    private static int wrong = 0;
    private static int calls = 0;
    private static int promise = 0;

    private static final int BAD = -2;
    private static final int OTHER = -3;
    private static final int NOTHING = -4;
    private static final int STUCK = -5;
    private static final int FULL = -6;
    private static final int[] NOT_SHELVES = {-1, 8, Integer.MIN_VALUE, Integer.MAX_VALUE};
    private static final int[] NOT_AXES = {-1, 3, Integer.MIN_VALUE, Integer.MAX_VALUE};

    private static void due(String what, long got, long want) {
        calls++;
        if (got != want) {
            wrong++;
            System.out.println("promise " + promise + ": " + what + " answered " + got + ", due is " + want);
        }
    }

    private static MouldThatComesOff fresh() {
        return new MouldThatComesOff();
    }

    private static MouldThatComesOff sized(int n) {
        MouldThatComesOff x = fresh();
        x.size(n);
        return x;
    }

    private static MouldThatComesOff fed(MouldThatComesOff x, String text) {
        for (int k = 0; k < text.length(); k++) {
            x.feed(text.charAt(k), 1);
        }
        return x;
    }

    private static int readOf(MouldThatComesOff x, String text) {
        return fed(x, text).read();
    }

    private static MouldThatComesOff read(String text) {
        MouldThatComesOff x = fresh();
        int answer = readOf(x, text);
        if (answer < 1) {
            due("the test's own text '" + text + "'", answer, 1);
        }
        return x;
    }

    private static long bits(int... cubes) {
        long set = 0;
        for (int c : cubes) {
            set |= 1L << c;
        }
        return set;
    }

    private static void refusals(MouldThatComesOff x, int bad, int other, int nothing, int stuck, int full) {
        due("status(12)", x.status(12), bad);
        due("status(13)", x.status(13), other);
        due("status(14)", x.status(14), nothing);
        due("status(15)", x.status(15), stuck);
        due("status(16)", x.status(16), full);
    }

    /** SHELF 0 a STRAIGHT by x more, 1 a ROW, 2 NOTHING. */
    private static MouldThatComesOff threeShelves() {
        MouldThatComesOff x = fresh();
        x.move(0, 1, 0, 0);
        x.row(1, 2, 5);
        return x;
    }

    public static void main(String[] args) {
        promise = 1; newObject();
        promise = 2; row();
        promise = 3; set();
        promise = 4; copy();
        promise = 5; element();
        promise = 6; holds();
        promise = 7; move();
        promise = 8; says();
        promise = 9; size();
        promise = 10; solid();
        promise = 11; figure();
        promise = 12; piece();
        promise = 13; alter();
        promise = 14; ask();
        promise = 15; feed();
        promise = 16; wipe();
        promise = 17; readStatements(); readFaults(); readAllOrNothing();
        promise = 18; cubes();
        promise = 19; setOf();
        promise = 20; whole();
        promise = 21; parts();
        promise = 22; free();
        promise = 23; comes();
        promise = 24; wrongParting();
        promise = 25; loose();
        promise = 26; bars();
        promise = 27; order();
        promise = 28; ring();
        promise = 29; serves();
        promise = 30; fewest();
        promise = 31; parted();
        promise = 32; hidden();
        promise = 33; make();
        promise = 34; halves();
        promise = 35; line();
        promise = 36; cut();
        promise = 37; best();
        promise = 38; helps();
        promise = 39; slide();
        promise = 40; tunnels();
        promise = 41; needed();
        promise = 42; alike();
        promise = 43; mirror();
        promise = 44; turn();
        promise = 45; thin();
        promise = 46; spare();
        promise = 47; grow();
        promise = 48; faces();
        promise = 49; casts();
        promise = 50; step();
        promise = 51; again();
        promise = 52; image();
        promise = 53; back();
        promise = 54; status();
        System.out.println(calls + " answers looked at, " + wrong + " are not as due");
        if (wrong != 0) System.exit(1);
    }

    private static void newObject() {
        MouldThatComesOff x = fresh();
        int[] want = {3, 0, 0, 0, 64, 100, 0, 0, -1, -1, -1, -1, 0, 0, 0, 0, 0};
        for (int what = 0; what < want.length; what++) due("status(" + what + ")", x.status(what), want[what]);
        due("cubes(0)", x.cubes(0), 0);
        for (int s = 0; s < 8; s++) due("holds(" + s + ")", x.holds(s), -1);
        for (int c = 0; c < 27; c++) due("SHOWS at first", x.ask(0, c, 1), 1);
        due("read() of nothing", x.read(), -20);
        due("back()", x.back(), STUCK);
        due("NONE", MouldThatComesOff.NONE, -1);
    }

    private static void row() {
        MouldThatComesOff x = fresh();
        for (int sort = 0; sort <= 4; sort++) {
            due("row", x.row(sort, sort, 40), 1);
            due("holds", x.holds(sort), sort);
            due("element", x.element(sort, 39), 0);
        }
        due("row of none", x.row(7, 0, 0), 1);
        due("its set", x.set(7, 0, 1), BAD);
        x.set(2, 3, 77);
        due("a new row", x.row(2, 2, 40), 1);
        due("is of zeros", x.element(2, 3), 0);
        x.move(2, 1, 0, 0);
        due("over a move", x.row(2, 3, 2), 1);
        due("holds", x.holds(2), 3);
        for (int s : NOT_SHELVES) due("row of no shelf", x.row(s, 0, 1), BAD);
        due("row sort -1", x.row(2, -1, 1), BAD);
        due("row sort 5", x.row(2, 5, 1), BAD);
        due("row n -1", x.row(2, 0, -1), BAD);
        due("row n 41", x.row(2, 0, 41), BAD);
        due("row n greatest", x.row(2, 0, Integer.MAX_VALUE), BAD);
        due("still holds", x.holds(2), 3);
        refusals(x, 10, 0, 0, 0, 0);
    }

    private static void set() {
        MouldThatComesOff x = fresh();
        for (int sort = 0; sort <= 4; sort++) x.row(sort, sort, 3);
        long v = 0x123456789ABCDEF0L;
        long[] want = {(byte) 0xF0, (short) 0xDEF0, 0x9ABCDEF0, v, 1};
        for (int sort = 0; sort <= 4; sort++) {
            due("set", x.set(sort, 2, v), 1);
            due("element", x.element(sort, 2), want[sort]);
        }
        x.set(0, 0, 256); due("byte 256", x.element(0, 0), 0);
        x.set(0, 0, 128); due("byte 128", x.element(0, 0), -128);
        x.set(1, 0, 65535); due("short 65535", x.element(1, 0), -1);
        x.set(2, 0, 1L << 31); due("int 2^31", x.element(2, 0), Integer.MIN_VALUE);
        x.set(4, 0, 256); due("boolean 256", x.element(4, 0), 1);
        x.set(4, 0, Long.MIN_VALUE); due("boolean least", x.element(4, 0), 1);
        x.set(4, 0, 0); due("boolean 0", x.element(4, 0), 0);
        x.move(5, 1, 0, 0);
        for (int s : NOT_SHELVES) due("no shelf", x.set(s, -1, 1), BAD);
        due("a move, ahead of i", x.set(5, -1, 1), OTHER);
        due("nothing, ahead of i", x.set(6, -1, 1), NOTHING);
        due("i -1", x.set(0, -1, 1), BAD);
        due("i 3", x.set(0, 3, 1), BAD);
        due("i greatest", x.set(0, Integer.MAX_VALUE, 1), BAD);
        refusals(x, 7, 1, 1, 0, 0);
    }

    private static void copy() {
        MouldThatComesOff x = fresh();
        x.row(0, 1, 5);
        x.row(1, 1, 8);
        x.row(2, 2, 8);
        x.move(3, 1, 0, 0);
        for (int i = 0; i < 5; i++) x.set(0, i, i + 1);
        due("copy", x.copy(0, 1, 1, 4, 4), 4);
        for (int i = 0; i < 8; i++) due("copied", x.element(1, i), i < 4 ? 0 : i - 2);
        due("onto itself, forth", x.copy(0, 0, 0, 1, 4), 4);
        long[] forth = {1, 1, 2, 3, 4};
        for (int i = 0; i < 5; i++) due("as they were", x.element(0, i), forth[i]);
        due("onto itself, back", x.copy(0, 0, 1, 0, 4), 4);
        long[] back = {1, 2, 3, 4, 4};
        for (int i = 0; i < 5; i++) due("as they were", x.element(0, i), back[i]);
        due("none", x.copy(0, 1, 5, 8, 0), 0);
        for (int s : NOT_SHELVES) {
            due("no shelf p", x.copy(s, 3, -1, 0, 0), BAD);
            due("no shelf q", x.copy(3, s, -1, 0, 0), BAD);
        }
        due("a move and nothing", x.copy(3, 4, 0, 0, 0), OTHER);
        due("nothing and a move", x.copy(4, 3, 0, 0, 0), OTHER);
        due("two sorts", x.copy(0, 2, -1, 0, 1), OTHER);
        due("nothing at q", x.copy(0, 4, -1, 0, 1), NOTHING);
        due("nothing at p", x.copy(4, 0, -1, 0, 1), NOTHING);
        due("i -1", x.copy(0, 1, -1, 0, 1), BAD);
        due("j -1", x.copy(0, 1, 0, -1, 1), BAD);
        due("n -1", x.copy(0, 1, 0, 0, -1), BAD);
        due("beyond p", x.copy(0, 1, 1, 0, 5), BAD);
        due("beyond q", x.copy(0, 1, 0, 5, 4), BAD);
        due("i and n wrap", x.copy(0, 1, 2, 0, Integer.MAX_VALUE), BAD);
        due("i beyond, none", x.copy(0, 1, 6, 0, 0), BAD);
        refusals(x, 15, 3, 2, 0, 0);
    }

    private static void element() {
        MouldThatComesOff x = threeShelves();
        x.set(1, 4, -9);
        due("element", x.element(1, 4), -9);
        due("none at -1", x.element(1, -1), 0);
        due("none at 5", x.element(1, 5), 0);
        due("a move", x.element(0, 0), 0);
        due("nothing", x.element(2, 0), 0);
        for (int s : NOT_SHELVES) due("no shelf", x.element(s, 0), 0);
        x.row(1, 2, 2);
        due("beyond a shorter row", x.element(1, 4), 0);
        x.row(1, 3, 40);
        due("behind the longest row", x.element(1, 40), 0);
        due("far behind it", x.element(1, Integer.MAX_VALUE), 0);
        refusals(x, 0, 0, 0, 0, 0);
    }

    private static void holds() {
        MouldThatComesOff x = fresh();
        for (int kind = 1; kind <= 5; kind++) {
            x.move(kind, kind, 0, 0);
            due("holds", x.holds(kind), 10 + kind);
        }
        x.row(0, 4, 0);
        due("holds", x.holds(0), 4);
        due("holds", x.holds(7), -1);
        for (int s : NOT_SHELVES) due("no shelf", x.holds(s), -1);
        refusals(x, 0, 0, 0, 0, 0);
    }

    private static void move() {
        MouldThatComesOff x = fresh();
        due("move", x.move(7, 2, 5, 3), 1);
        due("a", x.says(7, 0), 5);
        due("b", x.says(7, 2), 3);
        x.row(7, 0, 3);
        due("over a row", x.move(7, 1, 0, 5), 1);
        due("holds", x.holds(7), 11);
        for (int s : NOT_SHELVES) due("no shelf", x.move(s, 1, 0, 0), BAD);
        due("kind 0", x.move(7, 0, 0, 0), BAD);
        due("kind 6", x.move(7, 6, 0, 0), BAD);
        due("a -1", x.move(7, 2, -1, 0), BAD);
        due("a 6", x.move(7, 2, 6, 0), BAD);
        due("b -1", x.move(7, 2, 0, -1), BAD);
        due("b 6", x.move(7, 1, 0, 6), BAD);
        due("still holds", x.holds(7), 11);
        refusals(x, 10, 0, 0, 0, 0);
    }

    private static void says() {
        MouldThatComesOff x = fresh();
        x.solid(bits(4), true);
        for (int kind = 1; kind <= 5; kind++) x.move(kind, kind, 0, 3);
        x.row(6, 0, 1);
        for (int kind = 1; kind <= 5; kind++) due("taken for MOVE", x.says(kind, 0), 0);
        due("STRAIGHT: all but 3, and 4 is solid", x.says(1, 1), 25);
        due("CORE for STRAIGHT", x.says(3, 1), 25);
        due("CORE", x.says(3, 3), 25);
        due("HALF: x at its greatest", x.says(4, 4), 9);
        due("HALF for STRAIGHT is a HALF still", x.says(4, 1), 9);
        due("LIFT", x.says(2, 2), 3);
        due("FAR for LIFT", x.says(5, 2), 3);
        due("FAR", x.says(5, 5), 3);
        for (int s : NOT_SHELVES) due("no shelf", x.says(s, 0), BAD);
        due("kind -1 of a row", x.says(6, -1), BAD);
        due("kind 6 of nothing", x.says(7, 6), BAD);
        due("a row", x.says(6, 0), OTHER);
        due("STRAIGHT for LIFT", x.says(1, 2), OTHER);
        due("STRAIGHT for CORE", x.says(1, 3), OTHER);
        due("STRAIGHT for HALF", x.says(1, 4), OTHER);
        due("CORE for HALF", x.says(3, 4), OTHER);
        due("HALF for CORE", x.says(4, 3), OTHER);
        due("LIFT for STRAIGHT", x.says(2, 1), OTHER);
        due("LIFT for FAR", x.says(2, 5), OTHER);
        due("FAR for STRAIGHT", x.says(5, 1), OTHER);
        due("nothing", x.says(7, 0), NOTHING);
        refusals(x, 6, 9, 1, 0, 0);
    }

    private static void size() {
        MouldThatComesOff x = fresh();
        x.solid(7, true);
        x.piece(bits(9));
        x.piece(0);
        x.move(0, 1, 0, 0);
        x.step();
        x.ask(0, 5, 9);
        x.ask(1, 0, 7);
        x.ask(2, 0, 8);
        due("size", x.size(4), 3);
        int[] want = {4, 0, 0, 0, 7, 8, 0, 1};
        for (int what = 0; what < want.length; what++) due("status(" + what + ")", x.status(what), want[what]);
        due("SHOWS", x.ask(0, 5, 1), 1);
        due("SHOWS of the last", x.ask(0, 63, 1), 1);
        due("all cubes", x.cubes(1), -1L);
        x.solid(1, true);
        due("the same size", x.size(4), 4);
        due("empties it", x.cubes(0), 0);
        x.solid(1, true);
        due("size 1", x.size(1), BAD);
        due("size 5", x.size(5), BAD);
        due("least size", x.size(Integer.MIN_VALUE), BAD);
        due("nothing changed", x.cubes(0), 1);
        due("size 2", x.size(2), 4);
        due("all cubes", x.cubes(1), 255);
        due("size 3", x.size(3), 2);
        due("all cubes", x.cubes(1), 134217727);
        refusals(x, 3, 0, 0, 0, 0);
    }

    private static void solid() {
        MouldThatComesOff x = sized(2);
        due("solid", x.solid(5, true), 2);
        due("more", x.solid(7, true), 1);
        due("the figure", x.cubes(0), 7);
        due("empty", x.solid(-2, false), 2);
        due("the figure", x.cubes(0), 1);
        due("beyond the block", x.solid(-256, true), 0);
        due("all", x.solid(-1, true), 7);
        due("the figure", x.cubes(0), 255);
        due("none", x.solid(0, false), 0);
        x.size(4);
        due("all of 4", x.solid(-1, true), 64);
        due("last of 4", x.solid(Long.MIN_VALUE, false), 1);
        refusals(x, 0, 0, 0, 0, 0);
    }

    private static void figure() {
        MouldThatComesOff x = sized(2);
        x.row(0, 3, 12);
        x.set(0, 0, Long.MIN_VALUE);
        x.set(0, 7, 1);
        x.set(0, 8, 1);
        x.solid(2, true);
        due("figure", x.figure(0), 2);
        due("cubes(0)", x.cubes(0), 129);
        x.size(4);
        x.solid(Long.MIN_VALUE, true);
        due("missing ones are empty", x.figure(0), 3);
        due("cubes(0)", x.cubes(0), 385);
        x.row(3, 0, 40);
        x.set(3, 39, -1);
        due("of 40", x.figure(3), 1);
        due("cubes(0)", x.cubes(0), 1L << 39);
        x.move(1, 1, 0, 0);
        for (int s : NOT_SHELVES) due("no shelf", x.figure(s), BAD);
        due("a move", x.figure(1), OTHER);
        due("nothing", x.figure(2), NOTHING);
        due("nothing changed", x.cubes(0), 1L << 39);
        x.row(1, 0, 0);
        due("of none", x.figure(1), 0);
        refusals(x, 4, 1, 1, 0, 0);
    }

    private static void piece() {
        MouldThatComesOff x = sized(2);
        due("piece", x.piece(-1), 0);
        due("its set", x.setOf(0), 255);
        x.move(0, 1, 0, 0);
        due("off", x.step(), 0);
        for (int p = 1; p < 8; p++) due("piece", x.piece(p), p);
        due("a ninth", x.piece(1), FULL);
        due("pieces", x.status(2), 8);
        due("not off", x.status(3), 1);
        refusals(x, 0, 0, 0, 0, 1);
    }

    private static void alter() {
        MouldThatComesOff x = sized(2);
        x.piece(7);
        x.piece(8);
        due("alter", x.alter(0, -16), 3);
        due("its set", x.setOf(0), 240);
        due("to none", x.alter(0, 0), 4);
        due("none", x.alter(0, 1), 0);
        x.move(0, 1, 1, 0);
        x.step();
        due("piece -1", x.alter(-1, 0), BAD);
        due("piece 2", x.alter(2, 0), BAD);
        due("off", x.alter(0, 2), STUCK);
        due("its set", x.setOf(0), 1);
        x.again();
        due("on again", x.alter(0, 2), 1);
        refusals(x, 2, 0, 0, 1, 0);
    }

    private static void ask() {
        MouldThatComesOff x = sized(2);
        due("SHOWS", x.ask(0, 7, 9), 1);
        due("SHOWS", x.ask(0, 7, 0), 9);
        due("SHOWS", x.ask(0, 7, 6), 0);
        due("SHOWS of another", x.ask(0, 6, 1), 1);
        due("HEAVY", x.ask(1, -5, 1), 64);
        due("HEAVY", x.ask(1, 100, 64), 1);
        due("WEAR", x.ask(2, -5, 999), 100);
        due("WEAR", x.ask(2, 0, 1), 999);
        due("what -1", x.ask(-1, 0, 1), BAD);
        due("what 3", x.ask(3, 0, 1), BAD);
        due("cube -1", x.ask(0, -1, 1), BAD);
        due("cube 8", x.ask(0, 8, 1), BAD);
        due("SHOWS -1", x.ask(0, 7, -1), BAD);
        due("SHOWS 10", x.ask(0, 7, 10), BAD);
        due("HEAVY 0", x.ask(1, 0, 0), BAD);
        due("HEAVY 65", x.ask(1, 0, 65), BAD);
        due("WEAR 0", x.ask(2, 0, 0), BAD);
        due("WEAR 1000", x.ask(2, 0, 1000), BAD);
        due("SHOWS stayed", x.ask(0, 7, 6), 6);
        due("HEAVY stayed", x.status(4), 64);
        due("WEAR stayed", x.status(5), 1);
        refusals(x, 10, 0, 0, 0, 0);
    }

    private static void feed() {
        MouldThatComesOff x = fresh();
        due("feed wea", x.feed(0x41776561, 3), 3);
        due("feed 'r 7 '", x.feed(0x72203720, 4), 7);
        due("it is a figure", x.read(), 1);
        due("WEAR", x.status(5), 7);
        due("n 0", x.feed(1, 0), BAD);
        due("n 5", x.feed(1, 5), BAD);
        for (int k = 1; k <= 62; k++) due("feed", x.feed(0x20202020, 4), 4 * k);
        due("250 are room", x.feed(0x2020, 2), 250);
        due("full", x.feed(0, 1), FULL);
        due("n ahead of full", x.feed(0, -1), BAD);
        due("size", x.status(6), 250);
        x.wipe();
        for (int k = 1; k <= 62; k++) x.feed(0, 4);
        due("3 are too many", x.feed(0, 3), FULL);
        due("size", x.status(6), 248);
        refusals(x, 3, 0, 0, 0, 2);
    }

    private static void wipe() {
        MouldThatComesOff x = fresh();
        due("empty", x.wipe(), 0);
        x.feed(7, 4);
        due("wipe", x.wipe(), 4);
        due("size", x.status(6), 0);
        fed(x, "wear 5");
        due("what was is gone", x.read(), 1);
    }

    private static void readStatements() {
        MouldThatComesOff x = fresh();
        due("statements", readOf(x, " size 4;box 0 to 21 ; cut 21to 0;box63to63;piece;fill 1 to 2;piece;fill 60 to 3;shows 63 9;heavy 12;wear 999  "), 11);
        due("size", x.status(0), 4);
        due("figure", x.cubes(0), Long.MIN_VALUE);
        due("piece 0", x.setOf(0), 6);
        due("fill 60 to 3", x.setOf(1), boxOf(4, 60, 3));
        due("shows", x.ask(0, 63, 1), 9);
        due("heavy", x.status(4), 12);
        due("wear", x.status(5), 999);
        due("tape", x.status(6), 0);
        due("onto what there is", readOf(x, "box 0 to 0;fill 0 to 0"), 2);
        due("figure", x.cubes(0), Long.MIN_VALUE | 1);
        due("the last piece", x.setOf(1), boxOf(4, 60, 3) | 1);
        due("size empties", readOf(x, "size 4"), 1);
        due("figure", x.cubes(0), 0);
        due("pieces", x.status(2), 0);
        due("three digits", readOf(x, "heavy 064;wear 001;size 003"), 3);
        due("heavy", x.status(4), 64);
        due("a box whose corners cross", readOf(x, "box 2 to 24"), 1);
        due("figure", x.cubes(0), boxOf(3, 2, 24));
        due("a single statement", readOf(x, "cut 0 to 26"), 1);
        due("figure", x.cubes(0), 0);
        x.piece(1);
        x.move(0, 1, 1, 0);
        x.step();
        due("fill of a piece that is off", readOf(x, "fill 1 to 1"), 1);
        due("its set", x.setOf(0), 3);
        due("is off", x.status(3), 1);
        due("pieces to 8", readOf(x, "piece;piece;piece;piece;piece;piece;piece"), 7);
        due("pieces", x.status(2), 8);
        due("size makes room", readOf(x, "size 2;piece"), 2);
        refusals(x, 0, 0, 0, 0, 0);
    }

    private static long boxOf(int n, int a, int b) {
        long set = 0;
        for (int c = 0; c < n * n * n; c++) {
            boolean in = between(c % n, a % n, b % n) && between(c / n % n, a / n % n, b / n % n) && between(c / n / n, a / n / n, b / n / n);
            if (in) set |= 1L << c;
        }
        return set;
    }

    private static boolean between(int v, int a, int b) {
        return Math.min(a, b) <= v && v <= Math.max(a, b);
    }

    private static void fault(String text, int place) {
        MouldThatComesOff x = fresh();
        due("read of '" + text + "'", readOf(x, text), -20 - place);
        due("tape behind it", x.status(6), 0);
        refusals(x, 1, 0, 0, 0, 0);
    }

    private static void readFaults() {
        fault("", 0);
        fault("   ", 3);
        fault(";", 0);
        fault("piece;", 6);
        fault("piece; ", 7);
        fault("piece;;piece", 6);
        fault("piece piece", 6);
        fault("piece 3", 6);
        fault("siz 3", 0);
        fault("sizes 3", 0);
        fault("to", 0);
        fault("3", 0);
        fault(" Size 3", 1);
        fault("size", 4);
        fault("size  ", 6);
        fault("size size", 5);
        fault("size ;", 5);
        fault("size 1", 5);
        fault("size 5", 5);
        fault("size 0003", 5);
        fault("size 3x", 6);
        fault("size 3 3", 7);
        fault("size -3", 5);
        fault("size\t3", 4);
        fault("size" + (char) 0 + "3", 4);
        fault("size" + (char) 255 + "3", 4);
        fault("box 27 to 1", 4);
        fault("box 1", 5);
        fault("box 1 2", 6);
        fault("box 1 tot 2", 6);
        fault("box 1 to", 8);
        fault("box 1 to 27", 9);
        fault("box 1to 1000", 8);
        fault("size 2;box 1 to 8", 16);
        fault("cut to", 4);
        fault("fill 0 to 1", 0);
        fault("fill 99", 0);
        fault("piece;size 2;fill 0 to 1", 13);
        fault("piece;fill 0 to 27", 16);
        fault("piece;fill;", 10);
        fault("shows 27 1", 6);
        fault("shows 0 10", 8);
        fault("shows 0", 7);
        fault("shows 0 ;", 8);
        fault("heavy 0", 6);
        fault("heavy 65", 6);
        fault("wear 0", 5);
        fault("wear 1000", 5);
        fault("wear 5,", 6);
        fault("piece;piece;piece;piece;piece;piece;piece;piece; piece 1", 49);
        fault("wear 5;zz 3", 7);
    }

    private static void readAllOrNothing() {
        MouldThatComesOff x = read("size 2;box 0 to 3;piece;fill 4 to 7;shows 4 5;heavy 9;wear 9");
        due("a fault at the end", readOf(x, "box 0 to 7;cut 0 to 0;fill 0 to 1;piece;shows 4 2;heavy 8;wear 8;size 3;box 26 to 26;piece;z"), -20 - 91);
        due("figure", x.cubes(0), 15);
        due("piece", x.setOf(0), 240);
        due("pieces", x.status(2), 1);
        due("size", x.status(0), 2);
        due("heavy", x.status(4), 9);
        due("wear", x.status(5), 9);
        due("shows", x.ask(0, 4, 5), 5);
    }

    private static void cubes() {
        MouldThatComesOff x = fresh();
        x.solid(bits(4, 10, 12, 14, 16, 22), true);
        due("figure", x.cubes(0), bits(4, 10, 12, 14, 16, 22));
        due("empty", x.cubes(1), 134217727 & ~bits(4, 10, 12, 14, 16, 22));
        due("never", x.cubes(2), bits(13));
        x.piece(bits(0));
        x.piece(bits(1, 4));
        due("in pieces", x.cubes(3), bits(0, 1, 4));
        x.move(0, 1, 1, 0);
        x.step();
        due("in pieces not off", x.cubes(3), bits(1, 4));
        due("what 4", x.cubes(4), 0);
        due("what -1", x.cubes(-1), 0);
        x.size(4);
        due("empty", x.cubes(1), -1L);
        due("never", x.cubes(2), 0);
        refusals(x, 0, 0, 0, 0, 0);
    }

    private static void setOf() {
        MouldThatComesOff x = sized(4);
        x.piece(-1);
        x.piece(Long.MIN_VALUE);
        due("setOf", x.setOf(0), -1L);
        due("setOf", x.setOf(1), Long.MIN_VALUE);
        x.move(0, 1, 0, 0);
        x.step();
        due("of one that is off", x.setOf(0), -1L);
        due("none", x.setOf(2), 0);
        due("none", x.setOf(-1), 0);
        x.size(3);
        due("none", x.setOf(0), 0);
        refusals(x, 0, 0, 0, 0, 0);
    }

    private static void whole() {
        MouldThatComesOff x = fresh();
        due("empty", x.whole(0), 1);
        due("one", x.whole(bits(13)), 1);
        due("beside along x", x.whole(bits(0, 1)), 1);
        due("no neighbours over the edge along x", x.whole(bits(2, 3)), 0);
        due("beside along y", x.whole(bits(2, 5)), 1);
        due("no neighbours over the edge along y", x.whole(bits(8, 9)), 0);
        due("no neighbours over the edge along y", x.whole(bits(6, 9)), 0);
        due("beside along z", x.whole(bits(8, 17)), 1);
        due("by corners", x.whole(bits(0, 4)), 0);
        due("beyond the block", x.whole(bits(26, 27, 40)), 1);
        due("only beyond", x.whole(1L << 27), 1);
        x.size(4);
        due("all of 4", x.whole(-1), 1);
        due("ends of 4", x.whole(Long.MIN_VALUE | 1), 0);
        long snake = bits(0, 1, 2, 3, 7, 11, 10, 9, 8, 12, 28, 44, 60, 61, 62, 63, 59, 55, 54, 53, 52, 48);
        due("a snake", x.whole(snake), 1);
        due("cut through", x.whole(snake & ~bits(11)), 0);
    }

    private static void parts() {
        MouldThatComesOff x = sized(4);
        due("none", x.parts(), 0);
        long even = 0;
        for (int c = 0; c < 64; c++) if ((c % 4 + c / 4 % 4 + c / 16) % 2 == 0) even |= 1L << c;
        x.solid(even, true);
        due("each alone", x.parts(), 32);
        x.solid(-1, true);
        due("all", x.parts(), 1);
        x.solid(boxOf(4, 16, 31), false);
        due("two", x.parts(), 2);
    }

    private static void free() {
        MouldThatComesOff x = fresh();
        due("all ways", x.free(13), 63);
        x.solid(bits(14), true);
        due("13", x.free(13), 62);
        due("12 behind 13", x.free(12), 62);
        due("17", x.free(17), 55);
        due("11", x.free(11), 59);
        due("23", x.free(23), 31);
        due("5", x.free(5), 47);
        due("0", x.free(0), 63);
        due("cube -1", x.free(-1), BAD);
        due("cube 27", x.free(27), BAD);
        due("solid", x.free(14), STUCK);
        x.size(2);
        due("cube 8", x.free(8), BAD);
        x.size(4);
        x.solid(Long.MIN_VALUE, true);
        due("60 far ahead of it", x.free(60), 62);
        due("63", x.free(63), STUCK);
        refusals(x, 3, 0, 0, 2, 0);
    }

    private static void comes() {
        MouldThatComesOff x = fresh();
        x.solid(bits(2), true);
        x.move(0, 1, 0, 0);
        due("STRAIGHT onto a solid one", x.comes(0, bits(0)), 0);
        due("another row", x.comes(0, bits(3, 12, 26)), 1);
        due("where it lies at first is no step", x.comes(0, bits(2)), 1);
        due("one of the set", x.comes(0, bits(2, 1)), 0);
        due("empty", x.comes(0, 0), 1);
        due("beyond the block", x.comes(0, -1L << 27), 1);
        x.move(0, 3, 0, 0);
        due("CORE in a row", x.comes(0, bits(3, 5)), 1);
        due("CORE in a row that is barred", x.comes(0, bits(0)), 0);
        due("CORE across", x.comes(0, bits(3, 6)), 0);
        due("CORE empty", x.comes(0, 0), 1);
        x.move(0, 3, 5, 0);
        due("CORE along z", x.comes(0, bits(0, 18)), 1);
        due("CORE along z, not x", x.comes(0, bits(0, 1)), 0);
        x.move(0, 4, 0, 0);
        due("HALF at the end", x.comes(0, bits(5, 3)), 1);
        due("HALF not at the end", x.comes(0, bits(3, 4)), 0);
        due("HALF barred", x.comes(0, bits(1, 5)), 0);
        due("HALF empty", x.comes(0, 0), 1);
        x.move(0, 4, 3, 0);
        due("HALF towards y less", x.comes(0, bits(0, 12)), 1);
        due("HALF towards y less", x.comes(0, bits(12)), 0);
        x.move(0, 2, 2, 0);
        due("LIFT over it", x.comes(0, bits(0, 1)), 1);
        due("LIFT is gone by its first step", x.comes(0, bits(6)), 1);
        x.solid(bits(2), false);
        x.solid(bits(5), true);
        due("LIFT into it", x.comes(0, bits(0)), 0);
        due("LIFT under it", x.comes(0, bits(3)), 1);
        x.move(0, 5, 2, 0);
        due("FAR over it", x.comes(0, bits(0)), 1);
        due("FAR through it", x.comes(0, bits(2)), 0);
        due("FAR past it", x.comes(0, bits(1)), 1);
        x.move(0, 2, 0, 1);
        due("LIFT there and back", x.comes(0, bits(3)), 1);
        due("LIFT there into it", x.comes(0, bits(4)), 0);
        x.solid(-1, false);
        x.solid(bits(0), true);
        due("back over where it was", x.comes(0, bits(0)), 0);
        x.row(1, 0, 1);
        for (int s : NOT_SHELVES) due("no shelf", x.comes(s, 1), BAD);
        due("a row", x.comes(1, 1), OTHER);
        due("nothing", x.comes(2, 0), NOTHING);
        refusals(x, 4, 1, 1, 0, 0);
    }

    private static void parting(MouldThatComesOff x, int by, int at) {
        due("wrong(true)", x.wrong(true), by);
        due("wrong(false)", x.wrong(false), at);
    }

    private static void wrongParting() {
        MouldThatComesOff x = sized(2);
        parting(x, 5, 0);
        x.solid(-1, true);
        parting(x, 0, -1);
        x.solid(254, false);
        parting(x, 5, 1);
        x.piece(2);
        parting(x, 5, 2);
        x.piece(-4);
        parting(x, 0, -1);
        x.ask(1, 0, 6);
        parting(x, 0, -1);
        x.ask(1, 0, 5);
        parting(x, 4, 1);
        x.piece(0);
        parting(x, 3, 2);
        x.alter(2, bits(1, 7));
        parting(x, 2, 2);
        x.alter(1, bits(2, 4));
        parting(x, 2, 2);
        x.alter(2, bits(7));
        parting(x, 3, 1);
        x.alter(0, 3);
        parting(x, 1, 0);
        x.alter(0, 2);
        x.alter(1, 4);
        parting(x, 5, 3);
        x.move(0, 1, 0, 0);
        due("off", x.step(), 0);
        parting(x, 0, -1);
        x.again();
        // the first fault counts, not the first piece
        MouldThatComesOff y = sized(2);
        y.solid(1, true);
        y.piece(0);
        y.piece(bits(2, 3));
        y.piece(bits(3, 7));
        y.piece(1);
        parting(y, 1, 3);
        y.alter(3, 8);
        parting(y, 2, 2);
        y.alter(2, 128);
        parting(y, 2, 3);
        y.alter(3, 16);
        parting(y, 3, 0);
        // the pairs 0 and 3, 1 and 2: 2 is the first that has a cube of one ahead of it
        MouldThatComesOff z = fresh();
        z.piece(1);
        z.piece(2);
        z.piece(2);
        z.piece(1);
        parting(z, 2, 2);
        // a piece that is off has no part in it
        z.move(0, 1, 1, 0);
        z.solid(0, true);
        due("off", z.step(), 0);
        parting(z, 2, 2);
        refusals(z, 0, 0, 0, 0, 0);
    }

    /** A ring of solid cubes in the middle layer of 3, a lid below, a lid above with a pin in the ring. */
    private static MouldThatComesOff lids() {
        return read("size 3;box 9 to 17;cut 13 to 13;piece;fill 0 to 8;piece;fill 18 to 26;piece;fill 13 to 13");
    }

    private static void loose() {
        MouldThatComesOff x = lids();
        due("no moves", x.loose(0), -1);
        x.row(0, 0, 1);
        x.move(3, 1, 4, 0);
        x.move(5, 1, 5, 0);
        due("lid below", x.loose(0), 5);
        due("lid above", x.loose(1), 3);
        due("pin", x.loose(2), -1);
        x.move(1, 1, 2, 0);
        due("lid below, aside", x.loose(0), 1);
        x.step();
        due("it is off", x.loose(0), STUCK);
        due("pin", x.loose(2), 5);
        x.piece(0);
        due("an empty one by any", x.loose(3), 1);
        due("piece -1", x.loose(-1), BAD);
        due("piece 4", x.loose(4), BAD);
        refusals(x, 2, 0, 0, 1, 0);
    }

    private static void bars() {
        MouldThatComesOff x = lids();
        x.move(0, 1, 4, 0);
        x.row(1, 0, 1);
        due("past the lid above", x.bars(0, 2), 2);
        due("all, the figure not being there", x.bars(0, 0), 6);
        due("none", x.bars(0, 1), 0);
        x.move(3, 3, 4, 0);
        due("what is no core comes past none", x.bars(3, 1), 5);
        x.move(4, 4, 4, 0);
        due("no half towards there", x.bars(4, 2), 3);
        x.piece(0);
        due("empty pieces bar none", x.bars(0, 2), 2);
        due("nor are barred", x.bars(3, 3), 0);
        due("off", x.step(), 1);
        due("one that is off bars none", x.bars(0, 2), 0);
        for (int s : NOT_SHELVES) due("no shelf", x.bars(s, 1), BAD);
        due("piece -1 of a row", x.bars(1, -1), BAD);
        due("piece 4 of nothing", x.bars(2, 4), BAD);
        due("a row", x.bars(1, 1), OTHER);
        due("nothing", x.bars(2, 1), NOTHING);
        due("it is off", x.bars(0, 1), STUCK);
        refusals(x, 6, 1, 1, 1, 0);
    }

    private static void order() {
        MouldThatComesOff x = lids();
        due("no moves", x.order(0, 0), -1);
        x.move(6, 1, 4, 0);
        x.move(2, 3, 4, 0);
        int[] pieces = {1, 2};
        int[] shelves = {6, 2};
        // the lid below can't leave upwards: the ring of solid cubes is above it
        for (int i = 0; i < 2; i++) {
            due("order", x.order(i, 0), pieces[i]);
            due("by", x.order(i, 1), shelves[i]);
        }
        due("no third", x.order(2, 0), -1);
        x.move(7, 1, 0, 0);
        int[] all = {0, 1, 2};
        int[] by = {7, 6, 2};
        for (int i = 0; i < 3; i++) {
            due("order", x.order(i, 0), all[i]);
            due("by", x.order(i, 1), by[i]);
        }
        due("no fourth", x.order(3, 1), -1);
        due("no -1", x.order(-1, 0), -1);
        due("no greatest", x.order(Integer.MAX_VALUE, 1), -1);
        due("nothing is off", x.status(3), 0);
        due("what -1", x.order(0, -1), BAD);
        due("what 2", x.order(-1, 2), BAD);
        x.step();
        due("from what there is", x.order(0, 0), 1);
        refusals(x, 2, 0, 0, 0, 0);
    }

    private static void ring() {
        MouldThatComesOff x = lids();
        due("no moves", x.ring(), 7);
        x.move(0, 1, 4, 0);
        due("the lid below", x.ring(), 1);
        x.move(1, 1, 5, 0);
        due("none", x.ring(), 0);
        MouldThatComesOff y = read("size 2;piece;fill 0 to 0;piece;fill 1 to 1");
        y.move(0, 2, 0, 4);
        due("0 is barred, 1 not", y.order(0, 0), 1);
        due("none", y.ring(), 0);
        MouldThatComesOff z = sized(3);
        z.piece(bits(0, 4));
        z.piece(bits(1, 3));
        z.move(0, 1, 0, 0);
        due("each bars the other", z.ring(), 3);
        z.piece(bits(26));
        due("the third comes off", z.ring(), 3);
        due("order", z.order(0, 0), 2);
        z.step();
        due("those off are none of it", z.ring(), 3);
        due("no pieces", fresh().ring(), 0);
    }

    private static void serves() {
        MouldThatComesOff x = fresh();
        due("none", x.serves(0), 0);
        for (int w = 0; w < 6; w++) due("each", x.serves(1 << w), 1);
        x.solid(bits(13), true);
        due("x more", x.serves(1), 0);
        due("x more, x less", x.serves(3), 1);
        due("x more, y more", x.serves(5), 1);
        due("all", x.serves(63), 1);
        x.solid(bits(4, 10, 12, 14, 16, 22), true);
        x.solid(bits(13), false);
        due("never", x.serves(63), 0);
        x.solid(-1, true);
        due("no empty ones", x.serves(0), 1);
        due("-1", x.serves(-1), BAD);
        due("64", x.serves(64), BAD);
        refusals(x, 2, 0, 0, 0, 0);
    }

    private static void fewest() {
        MouldThatComesOff x = fresh();
        due("one", x.fewest(), 1);
        x.solid(bits(13), true);
        due("two", x.fewest(), 3);
        x.solid(bits(13), false);
        x.solid(boxOf(3, 2, 26), true);
        due("x less", x.fewest(), 2);
        x.solid(bits(13, 4, 10, 12, 14, 16, 22), true);
        x.solid(bits(13), false);
        due("never", x.fewest(), STUCK);
        x.solid(-1, true);
        due("no empty ones", x.fewest(), 0);
        // each of three holes has one way only
        MouldThatComesOff y = sized(4);
        y.solid(-1, true);
        y.solid(bits(21 + 16, 22 + 16, 23 + 16), false);
        y.solid(bits(25, 29), false);
        y.solid(bits(5, 21), false);
        due("three ways", y.fewest(), 1 | 4 | 32);
        refusals(x, 0, 0, 0, 1, 0);
    }

    private static void parted() {
        MouldThatComesOff x = fresh();
        due("one part", x.parted(1, 0), 1);
        due("no seam", x.parted(63, 1), 0);
        x.solid(bits(13), true);
        // by x more all but 12; by x less the cube 12: beside 9, 15, 3, 21
        due("parts", x.parted(3, 0), 2);
        due("seam", x.parted(3, 1), 8);
        x.ask(0, 12, 5);
        x.ask(0, 9, 0);
        due("seam by SHOWS", x.parted(3, 1), 4 * 5 + 3);
        due("the least of its ways", x.parted(63, 1), 4 * 5 + 3);
        x.solid(-1, true);
        x.solid(bits(2, 26), false);
        due("of one way, apart", x.parted(1, 0), 2);
        due("no pairs", x.parted(1, 1), 0);
        due("ways -1", x.parted(-1, 0), BAD);
        due("ways 64", x.parted(64, 0), BAD);
        due("what -1, and it doesn't serve", x.parted(0, -1), BAD);
        due("what 2, and it doesn't serve", x.parted(0, 2), BAD);
        due("it doesn't serve", x.parted(0, 0), STUCK);
        x.solid(-1, true);
        due("no empty ones", x.parted(0, 0), 0);
        due("no empty ones", x.parted(0, 1), 0);
        refusals(x, 4, 0, 0, 1, 0);
    }

    private static void hidden() {
        MouldThatComesOff x = fresh();
        due("no seam by one", x.hidden(), 1);
        x.solid(bits(13), true);
        due("all seams are alike", x.hidden(), 3);
        for (int c = 0; c < 27; c++) x.ask(0, c, 9);
        for (int c : new int[] {16, 15, 17, 7, 25}) x.ask(0, c, 0);
        // dear everywhere but around 16: by y less all but 16, which goes by a greater way
        due("around 16", x.hidden(), 24);
        x.solid(bits(4, 10, 12, 14, 16, 22), true);
        x.solid(bits(13), false);
        due("never", x.hidden(), STUCK);
        x.solid(-1, true);
        due("no empty ones", x.hidden(), 0);
        refusals(x, 0, 0, 0, 1, 0);
    }

    private static void make() {
        MouldThatComesOff x = fresh();
        x.piece(1);
        x.piece(2);
        x.move(0, 1, 1, 0);
        x.step();
        x.solid(bits(13), true);
        due("make", x.make(3), 2);
        due("the first by its least cube", x.setOf(0), 134217727 & ~bits(12, 13));
        due("the second", x.setOf(1), bits(12));
        due("others are gone", x.status(2), 2);
        due("none is off", x.status(3), 0);
        due("wrong", x.wrong(true), 0);
        // a way of a greater number whose part has a lesser cube comes first
        MouldThatComesOff y = sized(2);
        y.solid(-1, true);
        y.solid(bits(0, 7), false);
        due("make", y.make(1 | 2), 2);
        due("0 is free by x less alone", y.setOf(0), 1);
        due("7 by x more", y.setOf(1), 128);
        // nine lone cubes
        MouldThatComesOff z = fresh();
        z.piece(5);
        z.solid(-1, true);
        z.solid(bits(0, 2, 4, 6, 8, 18, 20, 24), false);
        due("eight", z.make(63), 8);
        due("by their least cubes", z.setOf(7), bits(24));
        z.solid(bits(26), false);
        due("nine", z.make(63), FULL);
        due("it stays", z.status(2), 8);
        due("-1", z.make(-1), BAD);
        due("64", z.make(64), BAD);
        due("it doesn't serve", z.make(0), STUCK);
        z.solid(-1, true);
        due("no empty ones", z.make(0), 0);
        due("no pieces", z.status(2), 0);
        refusals(z, 2, 0, 0, 1, 1);
    }

    private static void halves() {
        MouldThatComesOff x = fresh();
        for (int axis = 0; axis < 3; axis++) due("all heights", x.halves(axis), 15);
        x.solid(bits(13), true);
        for (int axis = 0; axis < 3; axis++) due("above and below the middle", x.halves(axis), 6);
        x.solid(bits(14), true);
        due("up to the high end", x.halves(0), 14);
        x.size(4);
        for (int axis = 0; axis < 3; axis++) due("all heights of 4", x.halves(axis), 31);
        x.solid(bits(0), true);
        due("a cube at the low end", x.halves(0), 3);
        x.solid(bits(2), true);
        due("a gap", x.halves(0), 0);
        due("none across y", x.halves(1), 3);
        x.solid(-1, true);
        due("no empty ones", x.halves(2), 31);
        for (int axis : NOT_AXES) due("no axis", x.halves(axis), BAD);
        refusals(x, 4, 0, 0, 0, 0);
    }

    private static void line() {
        MouldThatComesOff x = sized(4);
        for (int axis = 0; axis < 3; axis++) due("none solid", x.line(axis), 1);
        x.solid(bits(0, 3), true);
        due("a gap along x", x.line(0), 0);
        due("none along y", x.line(1), 1);
        x.solid(bits(1, 2), true);
        due("filled", x.line(0), 1);
        x.solid(bits(12), true);
        due("a gap along y", x.line(1), 0);
        x.solid(bits(12), false);
        x.solid(bits(35), true);
        due("a gap along z", x.line(2), 0);
        x.solid(bits(19), true);
        due("filled", x.line(2), 1);
        x.solid(-1, true);
        due("all", x.line(0), 1);
        for (int axis : NOT_AXES) due("no axis", x.line(axis), BAD);
        refusals(x, 4, 0, 0, 0, 0);
    }

    private static void cut() {
        MouldThatComesOff x = fresh();
        x.solid(bits(13), true);
        due("one beside a whole empty block", x.cut(0, 1), 3);
        due("the same", x.cut(0, 2), 3);
        x.solid(-1, true);
        due("halves with a flat back", x.cut(2, 1), 2);
        x.solid(bits(13), false);
        // each of the halves is open where it was cut
        due("a hollow cut below", x.cut(2, 1), 2);
        x.size(4);
        x.solid(-1, true);
        x.solid(bits(21), false);
        due("the hollow in the lower half but one", x.cut(2, 3), 9 + 1);
        due("height 0", x.cut(0, 0), BAD);
        due("height n", x.cut(0, 4), BAD);
        due("height 3 of 4", x.cut(0, 3), 9 + 1);
        for (int axis : NOT_AXES) due("no axis", x.cut(axis, 1), BAD);
        x.size(2);
        due("height 2 of 2", x.cut(0, 2), BAD);
        due("none solid", x.cut(0, 1), 2);
        refusals(x, 7, 0, 0, 0, 0);
    }

    private static void best() {
        due("of several the first", fresh().best(), 1);
        MouldThatComesOff x = sized(4);
        x.solid(-1, true);
        x.solid(bits(21 + 16), false);
        // 37 is x 1, y 1, z 2: open by the cuts at its own sides alone
        due("beside the hollow", x.best(), 1);
        MouldThatComesOff y = sized(4);
        y.solid(-1, true);
        y.solid(bits(42), false);
        // 42 is x 2, y 2, z 2: the cut at 1 leaves it shut
        due("the first that opens it", y.best(), 2);
        MouldThatComesOff w = read("size 3; box 0 to 26; cut 9 to 17; box 13 to 13; box 9 to 9; box 11 to 11; box 15 to 15; box 17 to 17");
        // a groove at each side: x more, x less, y more, y less; cut at z the halves are plain
        due("fewest", w.fewest(), 15);
        due("cut across z", w.cut(2, 1), 2);
        due("across z", w.best(), 21);
    }

    private static void helps() {
        MouldThatComesOff x = sized(4);
        // a bent hole: 21 behind 22, which opens to z more
        x.solid(-1, true);
        x.solid(bits(21, 22, 38, 54), false);
        due("never", x.cubes(2), bits(21));
        x.move(0, 1, 4, 0);
        due("straight", x.helps(0), 0);
        x.move(0, 2, 0, 4);
        due("lifted and aside", x.helps(0), 1);
        x.move(0, 5, 0, 4);
        due("too far", x.helps(0), 0);
        x.solid(bits(20), false);
        due("never", x.cubes(2), 0);
        x.row(1, 0, 1);
        for (int s : NOT_SHELVES) due("no shelf", x.helps(s), BAD);
        due("a row", x.helps(1), OTHER);
        due("nothing", x.helps(2), NOTHING);
        refusals(x, 4, 1, 1, 0, 0);
    }

    private static void slide() {
        MouldThatComesOff x = fresh();
        x.solid(-1, true);
        x.move(0, 1, 0, 0);
        due("where it is", x.slide(0, bits(0, 2), 0), bits(0, 2));
        due("a step", x.slide(0, bits(0, 2), 1), bits(1));
        due("two", x.slide(0, bits(0, 2), 2), bits(2));
        due("three", x.slide(0, bits(0, 2), 3), 0);
        due("nine", x.slide(0, -1, 9), 0);
        due("beyond the block", x.slide(0, -1L << 27, 0), 0);
        x.move(0, 2, 4, 3);
        due("LIFT", x.slide(0, bits(8, 26), 1), bits(17));
        due("LIFT aside", x.slide(0, bits(8, 26), 2), bits(14));
        x.move(0, 5, 4, 3);
        due("FAR", x.slide(0, bits(8), 2), bits(26));
        due("FAR aside", x.slide(0, bits(8), 3), bits(23));
        due("FAR aside", x.slide(0, bits(8), 4), bits(20));
        x.move(0, 3, 2, 0);
        due("CORE that is none", x.slide(0, bits(0, 1), 1), bits(3, 4));
        x.move(0, 4, 2, 0);
        due("HALF that is none", x.slide(0, bits(0), 1), bits(3));
        x.size(4);
        due("a set told as -2", x.slide(0, -2, 0), -2);
        x.move(0, 1, 5, 0);
        due("from the last", x.slide(0, Long.MIN_VALUE, 1), 1L << 47);
        x.row(1, 0, 1);
        for (int s : NOT_SHELVES) due("no shelf", x.slide(s, 1, 0), BAD);
        due("k -1 of a row", x.slide(1, 1, -1), BAD);
        due("k 10 of nothing", x.slide(2, 1, 10), BAD);
        due("a row", x.slide(1, 1, 0), OTHER);
        due("nothing", x.slide(2, 1, 0), NOTHING);
        refusals(x, 6, 1, 1, 0, 0);
    }

    private static void tunnels() {
        MouldThatComesOff x = fresh();
        for (int axis = 0; axis < 3; axis++) due("all rows", x.tunnels(axis), 9);
        x.solid(bits(0, 1, 2, 26), true);
        due("x", x.tunnels(0), 7);
        due("y", x.tunnels(1), 5);
        due("z", x.tunnels(2), 5);
        x.solid(-1, true);
        due("none", x.tunnels(1), 0);
        x.size(4);
        due("all rows of 4", x.tunnels(2), 16);
        for (int axis : NOT_AXES) due("no axis", x.tunnels(axis), BAD);
        refusals(x, 4, 0, 0, 0, 0);
    }

    private static void needed() {
        MouldThatComesOff x = fresh();
        due("none", x.needed(), 0);
        x.solid(bits(0, 1, 2), true);
        due("the middle one", x.needed(), bits(1));
        x.solid(bits(26), true);
        due("a lone one is not", x.needed(), bits(1));
        x.solid(bits(3, 4, 5), true);
        due("two rows", x.needed(), 0);
        x.solid(-1, false);
        x.solid(bits(13, 4, 22, 10, 16, 12, 14), true);
        due("a cross", x.needed(), bits(13));
        x.size(4);
        x.solid(bits(62, 63, 59), true);
        due("the last", x.needed(), Long.MIN_VALUE);
    }

    private static void alike() {
        MouldThatComesOff x = fresh();
        due("none solid", x.alike(), 7);
        x.solid(bits(0), true);
        due("a corner", x.alike(), 0);
        x.solid(bits(2), true);
        due("x", x.alike(), 1);
        x.solid(bits(6, 8), true);
        due("x and y", x.alike(), 3);
        x.solid(bits(18, 20, 24, 26), true);
        due("all", x.alike(), 7);
        x.size(4);
        x.solid(bits(0, 48), true);
        due("z", x.alike(), 4);
    }

    private static void mirror() {
        MouldThatComesOff x = fresh();
        x.solid(bits(0, 4), true);
        x.piece(bits(1));
        x.piece(bits(5, 26));
        x.move(0, 1, 3, 0);
        due("off", x.step(), 0);
        x.ask(0, 0, 6);
        due("mirror x", x.mirror(0), 1);
        due("figure", x.cubes(0), bits(2, 4));
        due("a piece that is off", x.setOf(0), bits(1));
        due("piece", x.setOf(1), bits(3, 24));
        due("shows", x.ask(0, 2, 6), 6);
        due("shows", x.ask(0, 0, 1), 1);
        due("mirror y", x.mirror(1), 1);
        due("figure", x.cubes(0), bits(8, 4));
        due("a piece that is off", x.setOf(0), bits(7));
        due("shows", x.ask(0, 8, 6), 6);
        due("mirror z", x.mirror(2), 1);
        due("figure", x.cubes(0), bits(26, 22));
        due("piece", x.setOf(1), bits(21, 0));
        due("shows", x.ask(0, 26, 6), 6);
        due("off", x.status(3), 1);
        for (int axis : NOT_AXES) due("no axis", x.mirror(axis), BAD);
        x.size(4);
        x.solid(bits(0, 21), true);
        x.mirror(2);
        due("of 4", x.cubes(0), bits(48, 37));
        refusals(x, 4, 0, 0, 0, 0);
    }

    private static void turn() {
        MouldThatComesOff x = fresh();
        // x 0, y 0 comes to x 0, y 2; x 1, y 0 to x 0, y 1
        x.solid(bits(0, 10), true);
        x.piece(bits(1));
        x.ask(0, 1, 7);
        due("turn round z", x.turn(2), 1);
        due("figure", x.cubes(0), bits(6, 9 + 3));
        due("piece", x.setOf(0), bits(3));
        due("shows", x.ask(0, 3, 7), 7);
        due("shows", x.ask(0, 1, 1), 1);
        x.turn(2);
        x.turn(2);
        x.turn(2);
        due("four quarters", x.cubes(0), bits(0, 10));
        // round x: y 0, z 1 comes to y 1, z 2
        x.solid(-1, false);
        x.solid(bits(9), true);
        due("turn round x", x.turn(0), 1);
        due("figure", x.cubes(0), bits(3 + 18));
        // round y: x 0, z 2 comes to x 2, z 2
        due("turn round y", x.turn(1), 1);
        due("figure", x.cubes(0), bits(2 + 3 + 18));
        x.size(4);
        x.solid(bits(1), true);
        x.turn(2);
        due("of 4: x 1, y 0 to x 0, y 2", x.cubes(0), bits(8));
        for (int axis : NOT_AXES) due("no axis", x.turn(axis), BAD);
        refusals(x, 4, 0, 0, 0, 0);
    }

    private static void thin() {
        MouldThatComesOff x = fresh();
        x.piece(bits(0, 1, 2, 3, 4, 9));
        due("x", x.thin(0, 0), 1);
        due("y", x.thin(0, 1), 1);
        x.alter(0, bits(0, 2, 3, 4));
        due("x, with a gap", x.thin(0, 0), 2);
        due("y", x.thin(0, 1), 1);
        due("z", x.thin(0, 2), 1);
        x.alter(0, -1);
        due("all", x.thin(0, 2), 3);
        x.move(0, 1, 0, 0);
        x.step();
        due("off", x.thin(0, 2), 3);
        x.piece(0);
        due("empty", x.thin(1, 0), 0);
        due("piece -1", x.thin(-1, 0), BAD);
        due("piece 2", x.thin(2, 0), BAD);
        for (int axis : NOT_AXES) due("no axis", x.thin(0, axis), BAD);
        refusals(x, 6, 0, 0, 0, 0);
    }

    private static void spare() {
        MouldThatComesOff x = fresh();
        x.piece(bits(0));
        due("around 0", x.spare(0), bits(1, 3, 9));
        x.solid(bits(1), true);
        x.piece(bits(9));
        due("less a solid one and another piece's", x.spare(0), bits(3));
        x.move(0, 1, 1, 0);
        due("off", x.step(), 0);
        due("one that is off, too", x.spare(0), bits(3));
        due("its cubes are to spare again", x.spare(1), bits(0, 10, 12, 18));
        x.again();
        x.alter(0, bits(3, 4));
        x.step();
        // each of two cubes that are off lies beside the other, and no piece has it
        due("those of its own", x.spare(0), bits(0, 3, 4, 5, 6, 7, 12, 13));
        due("none such", x.spare(2), 0);
        due("none such", x.spare(-1), 0);
        refusals(x, 0, 0, 0, 0, 0);
    }

    private static void grow() {
        MouldThatComesOff x = fresh();
        x.piece(bits(0));
        x.piece(bits(26));
        x.solid(bits(1), true);
        due("grow", x.grow(0), 2);
        due("its set", x.setOf(0), bits(0, 3, 9));
        due("grow", x.grow(0), 5);
        due("its set", x.setOf(0), bits(0, 3, 9, 4, 6, 10, 12, 18));
        x.alter(0, 0);
        due("an empty one", x.grow(0), 0);
        x.move(0, 1, 0, 0);
        x.step();
        due("off", x.grow(0), STUCK);
        due("piece -1", x.grow(-1), BAD);
        due("piece 2", x.grow(2), BAD);
        refusals(x, 2, 0, 0, 1, 0);
    }

    private static void faces() {
        MouldThatComesOff x = fresh();
        x.solid(bits(13), true);
        x.piece(bits(4, 10, 12, 14, 16, 22));
        due("all around", x.faces(0), 6);
        x.piece(bits(13));
        due("of its own cube none", x.faces(1), 0);
        x.solid(bits(14), true);
        x.alter(1, bits(13, 14));
        due("two that are solid: each of the other", x.faces(1), 2);
        x.move(0, 1, 5, 0);
        x.alter(1, bits(2));
        x.alter(0, bits(4, 5));
        x.step();
        due("off", x.faces(0), 2);
        due("piece -1", x.faces(-1), BAD);
        due("piece 2", x.faces(2), BAD);
        refusals(x, 2, 0, 0, 0, 0);
    }

    private static void casts() {
        MouldThatComesOff x = fresh();
        due("no pieces", x.casts(), 999);
        x.piece(bits(0));
        due("no faces", x.casts(), 999);
        x.solid(bits(1, 3, 9), true);
        due("100 by 3", x.casts(), 33);
        x.ask(2, 0, 2);
        due("2 by 3", x.casts(), 0);
        x.ask(2, 0, 999);
        x.piece(bits(2));
        due("the greatest counts", x.casts(), 333);
        x.alter(0, bits(26));
        due("999 by 1", x.casts(), 999);
        x.ask(2, 0, 50);
        due("50 by 1", x.casts(), 50);
        x.move(0, 1, 0, 0);
        x.alter(0, bits(2));
        x.alter(1, bits(26));
        due("off", x.step(), 0);
        due("one that is off doesn't count", x.casts(), 999);
        refusals(x, 0, 0, 0, 0, 0);
    }

    private static void step() {
        MouldThatComesOff x = lids();
        due("no moves", x.step(), STUCK);
        x.move(0, 1, 4, 0);
        due("the lid above", x.step(), 1);
        due("off", x.status(3), 1);
        due("the pin", x.step(), 2);
        due("stuck", x.step(), STUCK);
        due("off", x.status(3), 2);
        x.move(1, 1, 5, 0);
        due("the lid below", x.step(), 0);
        due("none left", x.step(), STUCK);
        due("no pieces", fresh().step(), STUCK);
        due("pieces stay", x.status(2), 3);
        refusals(x, 0, 0, 0, 3, 0);
    }

    private static void again() {
        MouldThatComesOff x = lids();
        x.move(0, 1, 4, 0);
        due("none off", x.again(), 0);
        x.step();
        x.step();
        due("two", x.again(), 2);
        due("off", x.status(3), 0);
        due("the pin is barred again", x.loose(2), -1);
    }

    private static void image() {
        MouldThatComesOff x = lids();
        x.move(0, 1, 4, 0);
        x.step();
        x.ask(0, 5, 4);
        x.ask(1, 0, 33);
        x.ask(2, 0, 44);
        due("image", x.image(), 1);
        x.again();
        x.alter(0, 1);
        x.piece(1);
        x.solid(-1, true);
        x.ask(0, 5, 3);
        x.ask(1, 0, 3);
        x.ask(2, 0, 4);
        x.size(4);
        x.row(0, 1, 1);
        x.feed(65, 1);
        due("a refusal", x.size(9), BAD);
        due("back", x.back(), 1);
        int[] want = {3, 8, 3, 1, 33, 44, 1, 1};
        for (int what = 0; what < want.length; what++) due("status(" + what + ")", x.status(what), want[what]);
        due("figure", x.cubes(0), 253440);
        due("piece 0", x.setOf(0), 511);
        due("piece 1 is off", x.loose(1), STUCK);
        due("shows", x.ask(0, 5, 4), 4);
        due("the shelf is as it was", x.holds(0), 1);
        due("refusals are as they were", x.status(12), 1);
    }

    private static void back() {
        MouldThatComesOff x = fresh();
        due("nothing was", x.back(), STUCK);
        x.solid(1, true);
        x.image();
        x.solid(2, true);
        due("back", x.back(), 1);
        due("figure", x.cubes(0), 1);
        x.solid(4, true);
        due("back again", x.back(), 1);
        due("figure", x.cubes(0), 1);
        x.solid(8, true);
        x.image();
        x.size(2);
        due("a later image", x.back(), 1);
        due("figure", x.cubes(0), 9);
        fed(x, "size 2;box 0 to 7");
        x.read();
        due("behind a read", x.back(), 1);
        due("figure", x.cubes(0), 9);
        due("size", x.status(0), 3);
        refusals(x, 0, 0, 0, 1, 0);
    }

    private static void status() {
        MouldThatComesOff x = lids();
        x.ask(1, 0, 10);
        x.ask(2, 0, 20);
        x.feed(0, 3);
        x.move(0, 1, 4, 0);
        x.row(7, 0, 0);
        x.step();
        int[] want = {3, 8, 3, 1, 10, 20, 3, 2, -1, -1, -1, -1, 0, 0, 0, 0, 0, -1};
        for (int what = 0; what < want.length; what++) due("status(" + what + ")", x.status(what), want[what]);
        due("status(-1)", x.status(-1), -1);
        due("status(least)", x.status(Integer.MIN_VALUE), -1);
        due("status(greatest)", x.status(Integer.MAX_VALUE), -1);
        x.size(0);
        x.comes(7, 0);
        x.comes(7, 0);
        x.comes(1, 0);
        x.alter(1, 0);
        for (int p = 0; p < 6; p++) x.piece(0);
        refusals(x, 1, 2, 1, 1, 1);
    }
}
