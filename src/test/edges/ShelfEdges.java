/** Promises 1 to 8: a new object, and what SHELVES hold. */
final class ShelfEdges extends Edges {
    static void run() {
        newObject();
        row();
        set();
        copy();
        elementAndHolds();
        move();
        says();
    }

    private static void newObject() {
        under("Promise 1: A new object");
        edge("No solid CUBES", () -> {
            due("cubes(0)", fresh().cubes(0), 0);
            due("cubes(1)", fresh().cubes(1), all(3));
            due("one object knows nothing of another", formed(3, 1).cubes(0) + fresh().cubes(0), 1);
        });
        edge("no PIECES", () -> {
            due("status(2)", fresh().status(2), 0);
            due("setOf(0)", fresh().setOf(0), 0);
            due("faces(0)", fresh().faces(0), BAD);
            due("step()", fresh().step(), STUCK);
        });
        edge("SHELVES hold NOTHING", () -> {
            for (int s = 0; s < 8; s++) due("holds(" + s + ")", fresh().holds(s), NONE);
            due("status(7)", fresh().status(7), 0);
        });
        edge("THE TAPE is empty", () -> {
            due("status(6)", fresh().status(6), 0);
            due("wipe()", fresh().wipe(), 0);
            due("read()", fresh().read(), -20);
        });
    }

    private static void row() {
        under("Promise 2: row");
        edge("SHELF s holds a new ROW: 1", () -> {
            MouldThatComesOff x = fresh();
            for (int s = 0; s < 8; s++) {
                due("row", x.row(s, s % 5, 5 * s), 1);
                due("its SORT", x.holds(s), s % 5);
                due("behind its end", x.set(s, 5 * s, 1), BAD);
                if (s > 0) due("its last", x.set(s, 5 * s - 1, 1), 1);
            }
            due("the longest", x.row(0, 0, 40), 1);
            due("its last", x.set(0, 39, 1), 1);
            due("behind its end", x.set(0, 40, 1), BAD);
            due("another in its place", x.row(0, 3, 40), 1);
            due("of zeros", x.element(0, 39), 0);
            x.move(0, 1, 0, 0);
            due("in the place of a MOVE", x.row(0, 4, 1), 1);
            due("holds", x.holds(0), 4);
        });
        edge("BAD", () -> {
            for (int s : NO_SHELVES) refuses("SHELF " + s, BAD, x -> x.row(s, 0, 1));
            for (int sort : new int[] {-1, 5, LEAST, MOST}) refuses("SORT " + sort, BAD, x -> x.row(1, sort, 1));
            for (int n : new int[] {-1, 41, LEAST, MOST}) refuses("n " + n, BAD, x -> x.row(1, 0, n));
            refuses("over a MOVE", BAD, x -> x.row(0, 0, 41));
            refuses("over NOTHING", BAD, x -> x.row(2, 5, 1));
        });
    }

    private static void set() {
        under("Promise 3: set");
        edge("Element i of the ROW in SHELF s becomes v: 1", () -> {
            MouldThatComesOff x = fresh();
            x.row(7, 3, 3);
            due("the first", x.set(7, 0, Long.MIN_VALUE), 1);
            due("the last", x.set(7, 2, Long.MAX_VALUE), 1);
            due("the first", x.element(7, 0), Long.MIN_VALUE);
            due("between them", x.element(7, 1), 0);
            due("the last", x.element(7, 2), Long.MAX_VALUE);
            due("anew", x.set(7, 2, 0), 1);
            due("the last", x.element(7, 2), 0);
        });
        edge("BAD SHELF", () -> {
            for (int s : NO_SHELVES) refuses("SHELF " + s, BAD, x -> x.set(s, 0, 1));
        });
        edge("OTHER", () -> {
            refuses("a MOVE", OTHER, x -> x.set(0, 0, 1));
            refuses("a MOVE, and i may not be", OTHER, x -> x.set(0, -1, 1));
        });
        edge("NOTHING", () -> {
            refuses("NOTHING", NOTHING, x -> x.set(2, 0, 1));
            refuses("NOTHING, and i may not be", NOTHING, x -> x.set(2, 40, 1));
        });
        edge("BAD i", () -> {
            for (int i : new int[] {-1, 5, 40, LEAST, MOST}) refuses("i " + i, BAD, x -> x.set(1, i, 1));
            due("of a ROW without elements", rowOf(0).set(6, 0, 1), BAD);
            due("the last of 40", rowOf(40).set(6, 39, 1), 1);
            due("behind 40", rowOf(40).set(6, 40, 1), BAD);
        });
    }

    private static MouldThatComesOff rowOf(int n) {
        MouldThatComesOff x = fresh();
        x.row(6, 0, n);
        return x;
    }

    /** SHELVES 0 and 1 hold ROWS of ints, 1 to 5 and three zeros. */
    private static MouldThatComesOff twoRows() {
        MouldThatComesOff x = rich();
        x.row(0, 2, 5);
        x.row(1, 2, 3);
        for (int i = 0; i < 5; i++) x.set(0, i, i + 1);
        return x;
    }

    private static void elementsAre(MouldThatComesOff x, int s, long... want) {
        for (int i = 0; i < want.length; i++) due("element " + i, x.element(s, i), want[i]);
    }

    private static void copy() {
        under("Promise 4: copy");
        edge("n elements of the ROW in SHELF p from place i on come to places j on of that in q", () -> {
            MouldThatComesOff x = twoRows();
            due("to the end of both", x.copy(0, 1, 2, 0, 3), 3);
            elementsAre(x, 1, 3, 4, 5);
            due("one, to the last place", x.copy(0, 1, 0, 2, 1), 1);
            elementsAre(x, 1, 3, 4, 1);
            due("none, from behind the last", x.copy(0, 1, 5, 3, 0), 0);
            elementsAre(x, 1, 3, 4, 1);
            elementsAre(x, 0, 1, 2, 3, 4, 5);
            x.row(6, 2, 0);
            due("none of none", x.copy(6, 6, 0, 0, 0), 0);
            x.row(5, 0, 40);
            x.row(6, 0, 40);
            x.set(5, 39, 7);
            due("all of 40", x.copy(5, 6, 0, 0, 40), 40);
            due("the last", x.element(6, 39), 7);
        });
        edge("(as they were): n", () -> {
            MouldThatComesOff x = twoRows();
            due("onto itself, forth", x.copy(0, 0, 0, 1, 4), 4);
            elementsAre(x, 0, 1, 1, 2, 3, 4);
            x = twoRows();
            due("onto itself, back", x.copy(0, 0, 1, 0, 4), 4);
            elementsAre(x, 0, 2, 3, 4, 5, 5);
            due("onto the same places", x.copy(0, 0, 0, 0, 5), 5);
            elementsAre(x, 0, 2, 3, 4, 5, 5);
        });
        edge("BAD SHELVES", () -> {
            for (int s : NO_SHELVES) {
                refuses("p " + s, BAD, x -> x.copy(s, 1, 0, 0, 1));
                refuses("q " + s, BAD, x -> x.copy(1, s, 0, 0, 1));
                refuses("p " + s + ", q a MOVE", BAD, x -> x.copy(s, 0, 0, 0, 1));
                refuses("q " + s + ", p NOTHING", BAD, x -> x.copy(2, s, 0, 0, 1));
            }
        });
        edge("OTHER (", () -> {
            refuses("p a MOVE", OTHER, x -> x.copy(0, 1, 0, 0, 1));
            refuses("q a MOVE", OTHER, x -> x.copy(1, 0, 0, 0, 1));
            refuses("both MOVES", OTHER, x -> x.copy(0, 4, 0, 0, 1));
            refuses("p a MOVE, q NOTHING", OTHER, x -> x.copy(0, 2, 0, 0, 1));
            refuses("p NOTHING, q a MOVE", OTHER, x -> x.copy(2, 0, 0, 0, 1));
            refuses("a MOVE, and n may not be", OTHER, x -> x.copy(0, 1, 0, 0, -1));
        });
        edge("also ROWS of two SORTS, if both hold something)", () -> {
            refuses("ints and longs", OTHER, x -> x.copy(1, 3, 0, 0, 1));
            refuses("longs and ints", OTHER, x -> x.copy(3, 1, 0, 0, 1));
            refuses("none of them", OTHER, x -> x.copy(3, 1, 0, 0, 0));
            refuses("and n may not be", OTHER, x -> x.copy(3, 1, 0, 0, 9));
            for (int sort = 0; sort <= 4; sort++) for (int other = 0; other <= 4; other++) {
                MouldThatComesOff x = fresh();
                x.row(0, sort, 1);
                x.row(1, other, 1);
                due("SORTS " + sort + " and " + other, x.copy(0, 1, 0, 0, 1), sort == other ? 1 : OTHER);
            }
        });
        edge("NOTHING", () -> {
            refuses("p NOTHING", NOTHING, x -> x.copy(2, 1, 0, 0, 1));
            refuses("q NOTHING", NOTHING, x -> x.copy(1, 2, 0, 0, 1));
            refuses("both NOTHING", NOTHING, x -> x.copy(2, 6, 0, 0, 0));
            refuses("NOTHING, and i may not be", NOTHING, x -> x.copy(1, 2, -1, 0, 1));
        });
        edge("BAD the others", () -> {
            int[][] wrong = {{-1, 0, 1}, {0, -1, 1}, {0, 0, -1}, {0, 0, 4}, {3, 0, 3}, {5, 0, 1}, {6, 0, 0}, {0, 3, 1}, {0, 4, 0},
                {0, 1, 3}, {MOST, 0, 1}, {0, MOST, 1}, {0, 0, MOST}, {1, 0, MOST}, {0, 1, MOST}, {LEAST, 0, 1}, {0, LEAST, 1}, {0, 0, LEAST}, {-1, 0, 0}, {0, -1, 0}};
            for (int[] w : wrong) {
                refuses("copy " + w[0] + " " + w[1] + " " + w[2], BAD, ShelfEdges::twoRows, x -> x.copy(0, 1, w[0], w[1], w[2]));
            }
        });
    }

    private static void elementAndHolds() {
        under("Promise 5: element");
        edge("Element i of the ROW", () -> {
            due("the first", rich().element(3, 0), Long.MIN_VALUE);
            due("the last", rich().element(1, 4), -7);
        });
        edge("0: none", () -> {
            for (int i : new int[] {-1, 5, 39, 40, 41, LEAST, MOST}) due("i " + i, rich().element(1, i), 0);
            MouldThatComesOff x = rich();
            x.set(1, 4, 9);
            x.row(1, 2, 4);
            due("of the longer ROW that was there", x.element(1, 4), 0);
            due("of a ROW without elements", rowOf(0).element(6, 0), 0);
            for (int i : new int[] {-1, 40, 41, LEAST, MOST}) due("i " + i + " of the longest ROW", rowOf(40).element(6, i), 0);
        });
        edge("no ROW", () -> {
            due("a MOVE", rich().element(4, 0), 0);
            due("NOTHING", rich().element(2, 0), 0);
            for (int s : NO_SHELVES) due("no SHELF", rich().element(s, 0), 0);
            MouldThatComesOff x = rich();
            x.move(3, 1, 0, 0);
            due("a MOVE where a ROW was", x.element(3, 0), 0);
        });
        edge("(nothing is refused)", () -> {
            MouldThatComesOff x = rich();
            x.element(1, -1);
            x.element(1, 5);
            x.element(0, 0);
            x.element(2, 0);
            x.element(8, 0);
            for (int what = 12; what <= 16; what++) due("status(" + what + ")", x.status(what), 0);
        });
        under("Promise 6: holds");
        edge("What SHELF s holds: NONE NOTHING", () -> due("NOTHING", rich().holds(2), NONE));
        edge("no SHELF", () -> {
            MouldThatComesOff x = rich();
            for (int s : NO_SHELVES) due("SHELF " + s, x.holds(s), NONE);
            due("it is not refused", x.status(12), 0);
        });
        edge("0 to 4 a ROW by its SORT", () -> {
            MouldThatComesOff x = fresh();
            for (int sort = 0; sort <= 4; sort++) {
                x.row(sort, sort, 0);
                due("holds", x.holds(sort), sort);
            }
        });
        edge("10 and the KIND of a MOVE", () -> {
            MouldThatComesOff x = fresh();
            for (int kind = 1; kind <= 5; kind++) {
                x.move(kind, kind, 0, 0);
                due("holds", x.holds(kind), 10 + kind);
            }
        });
    }

    private static void move() {
        under("Promise 7: move");
        edge("SHELF s holds a MOVE of a KIND (1 to 5) by WAYS a, b: 1", () -> {
            MouldThatComesOff x = rich();
            for (int s = 0; s < 8; s++) {
                due("move", x.move(s, 1 + s % 5, s % 6, 5), 1);
                due("holds", x.holds(s), 11 + s % 5);
                due("a", x.says(s, 0), s % 6);
            }
            due("b", x.says(1, 2), 5);
        });
        edge("BAD", () -> {
            for (int s : NO_SHELVES) refuses("SHELF " + s, BAD, x -> x.move(s, 1, 0, 0));
            for (int kind : new int[] {0, 6, -1, LEAST, MOST}) refuses("KIND " + kind, BAD, x -> x.move(0, kind, 0, 0));
            for (int way : new int[] {-1, 6, LEAST, MOST}) {
                refuses("a " + way, BAD, x -> x.move(0, 2, way, 0));
                refuses("b " + way, BAD, x -> x.move(1, 2, 0, way));
            }
        });
    }

    private static void says() {
        under("Promise 8: says");
        edge("What the MOVE in SHELF s, taken for one of a KIND, says: MOVE its a", () -> {
            MouldThatComesOff x = fresh();
            for (int kind = 1; kind <= 5; kind++) for (int a = 0; a < 6; a++) {
                x.move(7, kind, a, 5 - a);
                due("KIND " + kind, x.says(7, 0), a);
            }
        });
        edge("STRAIGHT, CORE, HALF how many empty CUBES COME by it, each alone, past THE FIGURE", () -> {
            for (int n = 2; n <= 4; n++) {
                MouldThatComesOff x = sized(n);
                for (int kind : new int[] {1, 3, 4}) x.move(kind, kind, 0, 0);
                int count = n * n * n;
                due("none solid", x.says(1, 1), count);
                due("CORE", x.says(3, 3), count);
                due("HALF: those at the end", x.says(4, 4), n * n);
                x.solid(bits(n - 1), true);
                due("the row behind one at the end", x.says(1, 1), count - n);
                due("CORE", x.says(3, 3), count - n);
                due("CORE taken for STRAIGHT", x.says(3, 1), count - n);
                due("HALF", x.says(4, 4), n * n - 1);
                due("HALF taken for STRAIGHT", x.says(4, 1), n * n - 1);
                x.solid(-1, true);
                due("none empty", x.says(1, 1), 0);
            }
            MouldThatComesOff x = fresh();
            x.move(0, 1, 0, 0);
            x.piece(all(3));
            due("PIECES don't count", x.says(0, 1), 27);
        });
        edge("LIFT, FAR its b", () -> {
            MouldThatComesOff x = fresh();
            for (int b = 0; b < 6; b++) {
                x.move(0, 2, 5 - b, b);
                x.move(1, 5, 5 - b, b);
                due("LIFT", x.says(0, 2), b);
                due("FAR", x.says(1, 5), b);
                due("FAR taken for LIFT", x.says(1, 2), b);
            }
        });
        edge("BAD SHELF, KIND", () -> {
            for (int s : NO_SHELVES) refuses("SHELF " + s, BAD, x -> x.says(s, 0));
            for (int kind : new int[] {-1, 6, LEAST, MOST}) {
                refuses("KIND " + kind, BAD, x -> x.says(0, kind));
                refuses("KIND " + kind + " of a ROW", BAD, x -> x.says(1, kind));
                refuses("KIND " + kind + " of NOTHING", BAD, x -> x.says(2, kind));
            }
        });
        edge("OTHER (", () -> {
            for (int kind = 0; kind <= 5; kind++) {
                int k = kind;
                refuses("a ROW taken for " + kind, OTHER, x -> x.says(1, k));
            }
        });
        edge("also if it is of no such KIND nor of one under it)", () -> {
            String[] fits = {"", "01", "02", "013", "014", "025"};
            for (int kind = 1; kind <= 5; kind++) for (int taken = 0; taken <= 5; taken++) {
                MouldThatComesOff x = fresh();
                x.move(0, kind, 0, 0);
                boolean is = fits[kind].indexOf('0' + taken) >= 0;
                due("KIND " + kind + " taken for " + taken + " is refused", x.says(0, taken) == OTHER ? 1 : 0, is ? 0 : 1);
                due("status(13)", x.status(13), is ? 0 : 1);
            }
            refuses("a STRAIGHT for a LIFT", OTHER, x -> x.says(0, 2));
        });
        edge("NOTHING", () -> {
            for (int kind = 0; kind <= 5; kind++) {
                int k = kind;
                refuses("NOTHING taken for " + kind, NOTHING, x -> x.says(2, k));
            }
        });
    }
}
