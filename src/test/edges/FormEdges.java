/** Promises 34 to 54: planes and cuts, THE FIGURE's form, single PIECES, and a mould being taken off. */
final class FormEdges extends Edges {
    static void run() {
        halvesAndLine();
        cutAndBest();
        helps();
        slide();
        tunnelsToAlike();
        mirror();
        turn();
        thin();
        spareAndGrow();
        facesAndCasts();
        stepAndAgain();
        imageAndBack();
        status();
    }

    private static void badAxes(String name, Call minus, Call three, Call least, Call most) {
        refuses(name + " across -1", BAD, minus);
        refuses(name + " across 3", BAD, three);
        refuses(name + " across the least", BAD, least);
        refuses(name + " across the greatest", BAD, most);
    }

    private static void halvesAndLine() {
        under("Promise 34: halves");
        edge("The heights (bits 0 to n) at which a plane DOES across an axis", () -> {
            for (int n = 2; n <= 4; n++) for (int axis = 0; axis < 3; axis++) {
                due("all", sized(n).halves(axis), (2 << n) - 1);
                due("of no empty CUBES", formed(n, -1).halves(axis), (2 << n) - 1);
                due("a layer below", formed(n, layer(n, axis, 0)).halves(axis), 3);
                due("a layer above", formed(n, layer(n, axis, n - 1)).halves(axis), 3 << n - 1);
                long both = layer(n, axis, 0) | layer(n, axis, n - 1);
                due("both", formed(n, both).halves(axis), n == 2 ? 7 : 0);
            }
        });
        edge("BAD", () -> badAxes("halves", x -> x.halves(-1), x -> x.halves(3), x -> x.halves(LEAST), x -> x.halves(MOST)));
        under("Promise 35: line");
        edge("LINE: 1, 0", () -> {
            for (int n = 2; n <= 4; n++) for (int axis = 0; axis < 3; axis++) {
                due("none solid", sized(n).line(axis), 1);
                due("none empty", formed(n, -1).line(axis), 1);
                long both = layer(n, axis, 0) | layer(n, axis, n - 1);
                due("a gap", formed(n, both).line(axis), n == 2 ? 1 : 0);
                due("none across another axis", formed(n, both).line((axis + 1) % 3), 1);
            }
        });
        edge("BAD", () -> badAxes("line", x -> x.line(-1), x -> x.line(3), x -> x.line(LEAST), x -> x.line(MOST)));
    }

    private static long layer(int n, int axis, int height) {
        int[] stride = {1, n, n * n};
        long set = 0;
        for (int c = 0; c < n * n * n; c++) if (c / stride[axis] % n == height) set |= 1L << c;
        return set;
    }

    private static void cutAndBest() {
        under("Promise 36: cut");
        edge("CUT at a height of an axis", () -> {
            for (int n = 2; n <= 4; n++) for (int axis = 0; axis < 3; axis++) for (int h = 1; h < n; h++) {
                due("nothing solid", sized(n).cut(axis, h), 2);
                due("all solid", formed(n, -1).cut(axis, h), 2);
            }
            due("both parts shut", formed(4, ~bits(21, 42)).cut(0, 2), 2);
            due("one part shut", formed(4, ~bits(21)).cut(0, 3), 10);
            due("x less, y less, z more; and one", formed(4, ~bits(21, 20, 22, 17, 25, 5, 37)).cut(2, 3), 4);
            MouldThatComesOff x = lids();
            x.cut(2, 1);
            due("THE FIGURE stays", x.cubes(0), 253440);
        });
        edge("BAD", () -> {
            badAxes("cut", x -> x.cut(-1, 1), x -> x.cut(3, 1), x -> x.cut(LEAST, 1), x -> x.cut(MOST, 1));
            for (int h : new int[] {0, 3, -1, LEAST, MOST}) refuses("height " + h, BAD, x -> x.cut(0, h));
            due("2 of 2", sized(2).cut(0, 2), BAD);
            due("1 of 2", sized(2).cut(0, 1), 2);
            due("3 of 4", sized(4).cut(2, 3), 2);
            due("4 of 4", sized(4).cut(2, 4), BAD);
        });
        under("Promise 37: best");
        edge("BEST CUT: 10 times the axis, and the height", () -> {
            for (int n = 2; n <= 4; n++) due("the first of all", sized(n).best(), 1);
            due("all solid", formed(4, -1).best(), 1);
            due("the second height", formed(4, ~bits(42)).best(), 2);
            due("the least axis, the greatest height", formed(4, ~bits(27)).best(), 3);
            due("across y", formed(4, bits(13, 49)).best(), 11);
            due("across y, in the middle", formed(4, ~bits(22, 40)).best(), 12);
            due("across y, high", formed(4, bits(10, 62)).best(), 13);
            due("across z", formed(4, bits(6, 54)).best(), 21);
            due("across z, in the middle", formed(4, ~bits(31, 32, 37)).best(), 22);
            due("across z, high", formed(4, ~bits(42, 45, 51)).best(), 23);
            for (int n = 2; n <= 4; n++) for (int axis = 0; axis < 3; axis++) for (int h = 1; h < n; h++) {
                long hollow = ~(layer(n, axis, h - 1) & inner(n));
                due("a hollow layer", formed(n, hollow).best(), bestOf(n, hollow));
            }
        });
    }

    private static long inner(int n) {
        long set = all(n);
        for (int axis = 0; axis < 3; axis++) set &= ~(layer(n, axis, 0) | layer(n, axis, n - 1));
        return set;
    }

    /** By the class's own cut(): the least, of several the first. */
    private static int bestOf(int n, long figure) {
        MouldThatComesOff x = formed(n, figure);
        int found = 0;
        int least = MOST;
        for (int axis = 0; axis < 3; axis++) for (int h = 1; h < n; h++) {
            int count = x.cut(axis, h);
            if (count < least) {
                least = count;
                found = 10 * axis + h;
            }
        }
        return found;
    }

    private static void helps() {
        under("Promise 38: helps");
        edge("How many empty CUBES that are NEVER ones COME, each alone, by the MOVE in SHELF s past THE FIGURE", () -> {
            MouldThatComesOff x = formed(4, ~bits(21, 22, 38, 54));
            x.move(0, 2, 0, 4);
            due("the one behind the bend", x.helps(0), 1);
            x.move(0, 1, 0, 4);
            due("none straight", x.helps(0), 0);
            x.move(0, 5, 0, 4);
            due("too far", x.helps(0), 0);
            x.size(3);
            due("there are no NEVER ones", x.helps(0), 0);
            x.solid(-1, true);
            due("nor empty ones", x.helps(0), 0);
            x = formed(4, ~bits(21, 22, 38, 54, 25, 26, 42, 58));
            x.move(0, 2, 0, 4);
            due("two, each alone", x.helps(0), 2);
            x.piece(bits(54));
            due("PIECES don't count", x.helps(0), 2);
            x.move(0, 4, 4, 4);
            due("no HALF of one in the middle", x.helps(0), 0);
        });
        edge("BAD", () -> {
            for (int s : NO_SHELVES) refuses("SHELF " + s, BAD, x -> x.helps(s));
        });
        edge("OTHER", () -> refuses("a ROW", OTHER, x -> x.helps(1)));
        edge("NOTHING", () -> refuses("NOTHING", NOTHING, x -> x.helps(2)));
    }

    private static void slide() {
        under("Promise 39: slide");
        edge("Where a set is behind k steps (0 to 9) of the MOVE in SHELF s, whatever it meets", () -> {
            MouldThatComesOff x = formed(4, -1);
            x.move(7, 1, 4, 0);
            due("0", x.slide(7, bits(0, 63), 0), bits(0, 63));
            due("3", x.slide(7, bits(0, 63), 3), bits(48));
            due("9", x.slide(7, -1, 9), 0);
            x.piece(-1);
            due("PIECES, too, may be met", x.slide(7, bits(0), 1), bits(16));
            x.move(7, 5, 4, 5);
            due("FAR there and back", x.slide(7, bits(0), 4), bits(0));
            due("a step further", x.slide(7, bits(0), 5), 0);
            x.move(7, 3, 0, 0);
            due("a CORE's set may lie in two rows", x.slide(7, bits(0, 4), 1), bits(1, 5));
            x.move(7, 4, 0, 0);
            due("a HALF's anywhere", x.slide(7, bits(0), 1), bits(1));
            due("an empty set", x.slide(7, 0, 5), 0);
        });
        edge("(what left the block is gone", () -> {
            MouldThatComesOff x = fresh();
            x.move(0, 1, 0, 0);
            due("not in the next row", x.slide(0, bits(2), 1), 0);
            due("the others stay in theirs", x.slide(0, bits(0, 1, 2), 1), bits(1, 2));
            x.move(0, 2, 0, 1);
            due("it doesn't come back", x.slide(0, bits(2, 1), 2), bits(1));
            x.move(0, 1, 5, 0);
            due("by less", x.slide(0, bits(8, 9), 1), bits(0));
            due("bits beyond the block don't come in", x.slide(0, -1L << 27, 1), 0);
            due("nor are they told", x.slide(0, -1L, 0), all(3));
            x.size(4);
            x.move(0, 1, 4, 0);
            due("the last layer", x.slide(0, -1L, 1), -1L << 16);
        });
        edge("-2, -3, -4 as numbers)", () -> {
            MouldThatComesOff x = sized(4);
            x.move(0, 1, 0, 0);
            x.row(1, 0, 0);
            long[] want = {-2L, -3L, -4L};
            due("BAD", x.slide(0, 1, 10), want[0]);
            due("OTHER", x.slide(1, 1, 0), want[1]);
            due("NOTHING", x.slide(2, 1, 0), want[2]);
            for (long set : want) due("a set that is the same number", x.slide(0, set, 0), set);
            for (int what = 12; what <= 14; what++) due("status(" + what + ")", x.status(what), 1);
        });
        edge("BAD", () -> {
            for (int s : NO_SHELVES) refuses("SHELF " + s, BAD, x -> x.slide(s, 1, 0));
            for (int k : new int[] {-1, 10, LEAST, MOST}) {
                refuses("k " + k, BAD, x -> x.slide(0, 1, k));
                refuses("k " + k + " of a ROW", BAD, x -> x.slide(1, 1, k));
                refuses("k " + k + " of NOTHING", BAD, x -> x.slide(2, 1, k));
            }
        });
        edge("OTHER", () -> refuses("a ROW", OTHER, x -> x.slide(1, 1, 0)));
        edge("NOTHING", () -> refuses("NOTHING", NOTHING, x -> x.slide(2, 1, 0)));
    }

    private static void tunnelsToAlike() {
        under("Promise 40: tunnels");
        edge("How many rows along an axis have no solid CUBE", () -> {
            for (int n = 2; n <= 4; n++) for (int axis = 0; axis < 3; axis++) {
                due("all", sized(n).tunnels(axis), n * n);
                due("none", formed(n, -1).tunnels(axis), 0);
                for (int c = 0; c < n * n * n; c++) due("one less", formed(n, bits(c)).tunnels(axis), n * n - 1);
                due("a layer across, below", formed(n, layer(n, axis, 0)).tunnels(axis), 0);
                due("a layer across", formed(n, layer(n, axis, n - 1)).tunnels(axis), 0);
                due("a layer along", formed(n, layer(n, (axis + 1) % 3, 0)).tunnels(axis), n * n - n);
            }
        });
        edge("BAD", () -> badAxes("tunnels", x -> x.tunnels(-1), x -> x.tunnels(3), x -> x.tunnels(LEAST), x -> x.tunnels(MOST)));
        under("Promise 41: needed");
        edge("Solid CUBES without each of which, alone, THE FIGURE would be of more parts than it is", () -> {
            due("none solid", fresh().needed(), 0);
            due("a lone one: there would be fewer", formed(3, bits(13)).needed(), 0);
            due("two", formed(3, bits(13, 14)).needed(), 0);
            due("the middle of three", formed(3, bits(12, 13, 14)).needed(), bits(13));
            due("a ring", formed(3, 253440).needed(), 0);
            due("all", formed(4, -1).needed(), 0);
            due("the first", formed(3, bits(0, 1, 3)).needed(), bits(0));
            due("an empty one between two is none", formed(3, bits(0, 2)).needed(), 0);
            due("of two parts", formed(4, bits(0, 1, 2, 61, 62, 63)).needed(), bits(1, 62));
            due("a chain", formed(3, bits(2, 1, 4, 3)).needed(), bits(1, 4));
            due("a fork whose arms are three", formed(3, bits(10, 12, 13, 14)).needed(), bits(13));
            due("the last of 4", formed(4, bits(62, 63, 47)).needed(), Long.MIN_VALUE);
        });
        under("Promise 42: alike");
        edge("Axes (bits) across which THE FIGURE is its own mirror image", () -> {
            for (int n = 2; n <= 4; n++) {
                due("none solid", sized(n).alike(), 7);
                due("all", formed(n, -1).alike(), 7);
                due("a corner", formed(n, bits(0)).alike(), 0);
                due("the other corner", formed(n, bits(n * n * n - 1)).alike(), 0);
                due("x", formed(n, bits(0, n - 1)).alike(), 1);
                due("y", formed(n, bits(0, n * n - n)).alike(), 2);
                due("z", formed(n, bits(0, n * n * n - n * n)).alike(), 4);
                due("a layer", formed(n, layer(n, 1, 0)).alike(), 5);
            }
            due("the middle", formed(3, bits(13)).alike(), 7);
            due("turned halfway, but no mirror image", formed(3, bits(0, 8)).alike(), 0);
        });
    }

    /** A CUBE of its own for THE FIGURE, a PIECE that is OFF, one that is on, and SHOWS. */
    private static MouldThatComesOff marked(int n, int cube, int shows) {
        MouldThatComesOff x = sized(n);
        x.move(0, 1, 0, 0);
        x.piece(bits(cube));
        x.piece(bits(cube));
        x.alter(0, 0);
        x.step();
        x.again();
        x.alter(1, 0);
        x.alter(0, bits(cube));
        x.step();
        x.alter(1, bits(cube));
        x.solid(bits(cube), true);
        x.ask(0, cube, shows);
        return x;
    }

    private static void markedAt(MouldThatComesOff x, int cube, int shows) {
        due("THE FIGURE", x.cubes(0), bits(cube));
        due("a PIECE that is OFF", x.setOf(0), bits(cube));
        due("a PIECE", x.setOf(1), bits(cube));
        due("OFF", x.status(3), 1);
        due("SHOWS", x.ask(0, cube, shows), shows);
        int n = x.status(0);
        int sum = 0;
        for (int c = 0; c < n * n * n; c++) sum += x.ask(0, c, 1);
        due("SHOWS of all the others", sum, n * n * n - 1 + shows);
    }

    private static void mirror() {
        under("Promise 43: mirror");
        edge("THE FIGURE, PIECES and SHOWS become their mirror image across an axis: 1", () -> {
            for (int n = 2; n <= 4; n++) for (int axis = 0; axis < 3; axis++) for (int c = 0; c < n * n * n; c++) {
                int[] at = {c % n, c / n % n, c / n / n};
                at[axis] = n - 1 - at[axis];
                MouldThatComesOff x = marked(n, c, c % 10);
                due("mirror", x.mirror(axis), 1);
                markedAt(x, at[0] + n * at[1] + n * n * at[2], c % 10);
                MouldThatComesOff y = formed(n, bits(c));
                for (int p = 0; p < 8; p++) y.piece(bits(c));
                due("with eight PIECES", y.mirror(axis), 1);
                for (int p = 0; p < 8; p++) due("PIECE " + p, y.setOf(p), bits(at[0] + n * at[1] + n * n * at[2]));
            }
            MouldThatComesOff x = rich();
            x.mirror(0);
            due("MOVES stay", x.says(5, 0), 0);
            due("an empty block", fresh().mirror(2), 1);
        });
        edge("BAD", () -> badAxes("mirror", x -> x.mirror(-1), x -> x.mirror(3), x -> x.mirror(LEAST), x -> x.mirror(MOST)));
    }

    private static void turn() {
        under("Promise 44: turn");
        edge("THE FIGURE, PIECES and SHOWS are turned by a quarter round an axis", () -> {
            for (int n = 2; n <= 4; n++) for (int axis = 0; axis < 3; axis++) {
                MouldThatComesOff x = marked(n, 1, 7);
                for (int k = 0; k < 4; k++) due("turn", x.turn(axis), 1);
                markedAt(x, 1, 7);
            }
            MouldThatComesOff x = rich();
            x.turn(2);
            due("MOVES stay", x.says(5, 0), 0);
        });
        edge("the two other axes by their numbers u and v (u the lesser): what is at u, v comes to v, n less 1 less u. 1", () -> {
            int[] lesser = {1, 0, 0};
            int[] greater = {2, 2, 1};
            for (int n = 2; n <= 4; n++) for (int axis = 0; axis < 3; axis++) for (int c = 0; c < n * n * n; c++) {
                int[] at = {c % n, c / n % n, c / n / n};
                int u = at[lesser[axis]];
                int v = at[greater[axis]];
                at[lesser[axis]] = v;
                at[greater[axis]] = n - 1 - u;
                MouldThatComesOff x = marked(n, c, c % 10);
                due("turn", x.turn(axis), 1);
                markedAt(x, at[0] + n * at[1] + n * n * at[2], c % 10);
                MouldThatComesOff y = formed(n, bits(c));
                for (int p = 0; p < 8; p++) y.piece(bits(c));
                due("with eight PIECES", y.turn(axis), 1);
                for (int p = 0; p < 8; p++) due("PIECE " + p, y.setOf(p), bits(at[0] + n * at[1] + n * n * at[2]));
            }
        });
        edge("BAD", () -> badAxes("turn", x -> x.turn(-1), x -> x.turn(3), x -> x.turn(LEAST), x -> x.turn(MOST)));
    }

    private static MouldThatComesOff withPiece(int n, long set) {
        MouldThatComesOff x = sized(n);
        x.piece(set);
        return x;
    }

    private static void thin() {
        under("Promise 45: thin");
        edge("The least number of CUBES of a PIECE in a row along an axis, of rows in which it has some", () -> {
            for (int n = 2; n <= 4; n++) for (int axis = 0; axis < 3; axis++) {
                due("all", withPiece(n, -1).thin(0, axis), n);
                due("one", withPiece(n, 1).thin(0, axis), 1);
                due("all but one", withPiece(n, all(n) >>> 1).thin(0, axis), n - 1);
                due("a layer along", withPiece(n, layer(n, (axis + 1) % 3, n - 1)).thin(0, axis), n);
                due("a layer across", withPiece(n, layer(n, axis, n - 1)).thin(0, axis), 1);
            }
            due("with a gap", withPiece(4, bits(0, 1, 3)).thin(0, 0), 3);
            due("of two rows the lesser", withPiece(4, bits(0, 1, 3, 62, 63)).thin(0, 0), 2);
            due("one that is OFF", rich().thin(1, 0), 3);
        });
        edge("0: it is empty", () -> {
            for (int axis = 0; axis < 3; axis++) due("axis " + axis, withPiece(3, 0).thin(0, axis), 0);
        });
        edge("BAD", () -> {
            badAxes("thin", x -> x.thin(0, -1), x -> x.thin(0, 3), x -> x.thin(0, LEAST), x -> x.thin(0, MOST));
            for (int p : new int[] {-1, 3, 8, LEAST, MOST}) refuses("PIECE " + p, BAD, x -> x.thin(p, 0));
            due("of an empty PIECE, too", withPiece(3, 0).thin(0, 3), BAD);
        });
    }

    private static void spareAndGrow() {
        under("Promise 46: spare");
        edge("Empty CUBES BESIDE a PIECE that no PIECE that isn't OFF has", () -> {
            due("of an empty PIECE", withPiece(3, 0).spare(0), 0);
            due("of all", withPiece(3, -1).spare(0), 0);
            due("around a corner", withPiece(3, bits(0)).spare(0), bits(1, 3, 9));
            due("around the last", withPiece(4, Long.MIN_VALUE).spare(0), bits(62, 59, 47));
            due("not over an edge", withPiece(3, bits(2)).spare(0), bits(1, 5, 11));
            MouldThatComesOff x = withPiece(3, bits(13));
            due("the middle", x.spare(0), bits(4, 10, 12, 14, 16, 22));
            x.solid(bits(4, 10), true);
            x.piece(bits(12));
            due("not solid ones, nor another's", x.spare(0), bits(14, 16, 22));
            x = rich();
            x.alter(0, bits(17));
            due("those of one that is OFF", x.spare(0), bits(8, 26));
            x.again();
            due("that is on again", x.spare(0), bits(8));
        });
        edge("(0: no such PIECE)", () -> {
            MouldThatComesOff x = rich();
            for (int p : new int[] {-1, 3, 8, LEAST, MOST}) due("PIECE " + p, x.spare(p), 0);
            due("it is not refused", x.status(12), 0);
        });
        under("Promise 47: grow");
        edge("A PIECE (not OFF) has these, too", () -> {
            MouldThatComesOff x = withPiece(3, bits(0));
            x.piece(bits(9));
            x.solid(bits(1), true);
            x.grow(0);
            due("its set", x.setOf(0), bits(0, 3));
            due("another's stays", x.setOf(1), bits(9));
            due("THE FIGURE, too", x.cubes(0), bits(1));
        });
        edge("how many came", () -> {
            due("to an empty one", withPiece(3, 0).grow(0), 0);
            due("to all", withPiece(4, -1).grow(0), 0);
            due("to one", withPiece(3, bits(13)).grow(0), 6);
            MouldThatComesOff x = withPiece(2, 1);
            int[] want = {3, 3, 1, 0};
            for (int k = 0; k < want.length; k++) due("again", x.grow(0), want[k]);
            due("its set", x.setOf(0), 255);
        });
        edge("BAD", () -> {
            for (int p : new int[] {-1, 3, 8, LEAST, MOST}) refuses("PIECE " + p, BAD, x -> x.grow(p));
        });
        edge("STUCK: it is OFF", () -> refuses("PIECE 1", STUCK, x -> x.grow(1)));
    }

    private static void facesAndCasts() {
        under("Promise 48: faces");
        edge("FACES of a PIECE", () -> {
            MouldThatComesOff x = lids();
            int[] want = {8, 8, 4};
            for (int p = 0; p < 3; p++) due("PIECE " + p, x.faces(p), want[p]);
            due("one that is OFF", rich().faces(1), 8);
            due("of an empty one", withPiece(3, 0).faces(0), 0);
            x = formed(4, -1);
            x.piece(-1);
            due("all on all: each pair both ways", x.faces(0), 2 * 3 * 48);
        });
        edge("BAD", () -> {
            for (int p : new int[] {-1, 3, 8, LEAST, MOST}) refuses("PIECE " + p, BAD, x -> x.faces(p));
            due("of none", fresh().faces(0), BAD);
        });
        under("Promise 49: casts");
        edge("CASTS, by PIECES that aren't OFF", () -> {
            due("no PIECES", formed(3, -1).casts(), 999);
            due("100 by 8", lids().casts(), 12);
            MouldThatComesOff x = rich();
            due("44 by 8", x.casts(), 5);
            x.alter(0, 0);
            due("8 of one that is OFF don't count: 44 by 4", x.casts(), 11);
            x.alter(2, 0);
            due("none is left that has some", x.casts(), 999);
            x.again();
            due("they count again", x.casts(), 5);
            x.size(3);
            x.solid(253440L, true);
            due("those that are gone don't", x.casts(), 999);
            due("eight, of which the last has some", eighthBeside().casts(), 100);
        });
    }

    private static MouldThatComesOff eighthBeside() {
        MouldThatComesOff x = withPieces(formed(3, bits(0)), 7);
        x.piece(bits(1));
        return x;
    }

    private static void stepAndAgain() {
        under("Promise 50: step");
        edge("The next PIECE of THE ORDER is taken off in truth: its number", () -> {
            MouldThatComesOff x = lids();
            x.move(0, 1, 4, 0);
            x.move(1, 1, 5, 0);
            for (int p = 0; p < 3; p++) {
                due("the next of THE ORDER", x.order(0, 0), p);
                due("step()", x.step(), p);
                due("OFF", x.status(3), p + 1);
                due("it is", x.loose(p), STUCK);
            }
            due("PIECES stay", x.status(2), 3);
            x = withPieces(fresh(), 8);
            x.move(7, 4, 0, 0);
            for (int p = 0; p < 8; p++) due("empty ones", x.step(), p);
            due("all eight are OFF", x.status(3), 8);
        });
        edge("STUCK: none is LOOSE", () -> {
            refuses("no PIECES", STUCK, Edges::fresh, MouldThatComesOff::step);
            refuses("no MOVES", STUCK, Edges::lids, MouldThatComesOff::step);
            refuses("barred", STUCK, FormEdges::barred, MouldThatComesOff::step);
            refuses("all are OFF", STUCK, FormEdges::takenOff, MouldThatComesOff::step);
        });
        under("Promise 51: again");
        edge("All PIECES are laid on again", () -> {
            MouldThatComesOff x = takenOff();
            x.again();
            due("OFF", x.status(3), 0);
            due("cubes(3)", x.cubes(3), all(3) & ~253440L);
            for (int p = 0; p < 3; p++) due("none is", x.loose(p) == STUCK ? 1 : 0, 0);
            due("from the first on", x.step(), 0);
        });
        edge("how many were OFF", () -> {
            due("no PIECES", fresh().again(), 0);
            due("none", lids().again(), 0);
            due("one", rich().again(), 1);
            due("all", takenOff().again(), 3);
            MouldThatComesOff x = takenOff();
            x.again();
            due("none now", x.again(), 0);
        });
    }

    private static MouldThatComesOff barred() {
        MouldThatComesOff x = lids();
        x.move(0, 3, 4, 0);
        return x;
    }

    private static MouldThatComesOff takenOff() {
        MouldThatComesOff x = lids();
        x.move(0, 1, 4, 0);
        x.move(1, 1, 5, 0);
        for (int p = 0; p < 3; p++) x.step();
        return x;
    }

    private static void imageAndBack() {
        under("Promise 52: image");
        edge("All is kept", () -> {
            MouldThatComesOff x = rich();
            due("image", x.image(), 1);
            x.size(4);
            x.solid(-1, true);
            withPieces(x, 8);
            x.ask(0, 5, 9);
            x.ask(1, 0, 1);
            x.ask(2, 0, 1);
            x.back();
            var now = told(x);
            var want = told(imaged());
            for (int k = 0; k < want.size(); k++) due("telling " + k, now.get(k), want.get(k));
        });
        edge("but THE TAPE, SHELVES and status(): 1", () -> {
            MouldThatComesOff x = rich();
            x.image();
            x.wipe();
            x.feed(0x20202020, 3);
            x.row(0, 4, 2);
            x.move(2, 2, 1, 3);
            x.size(9);
            x.alter(1, 0);
            due("back", x.back(), 1);
            due("THE TAPE", x.status(6), 3);
            due("a SHELF", x.holds(0), 4);
            due("another", x.holds(2), 12);
            due("how many", x.status(7), 6);
            due("status(12)", x.status(12), 1);
            due("status(15)", x.status(15), 1);
            due("the image of an image", x.image(), 1);
        });
        under("Promise 53: back");
        edge("All is again as it was kept: 1", () -> {
            MouldThatComesOff x = fresh();
            x.image();
            x.size(2);
            x.solid(1, true);
            due("back to a new block", x.back(), 1);
            due("SIZE", x.status(0), 3);
            due("CUBES", x.cubes(0), 0);
            x.solid(2, true);
            due("back once more", x.back(), 1);
            due("CUBES", x.cubes(0), 0);
            x.solid(4, true);
            x.image();
            x.solid(8, true);
            x.piece(1);
            due("back to what was kept last", x.back(), 1);
            due("CUBES", x.cubes(0), 4);
            due("PIECES", x.status(2), 0);
            x.piece(3);
            x.move(0, 1, 2, 0);
            x.step();
            x.image();
            x.again();
            x.alter(0, 1);
            due("back to one that is OFF", x.back(), 1);
            due("OFF", x.status(3), 1);
            due("its set", x.setOf(0), 3);
            x.again();
            x.alter(0, 7);
            x.mirror(0);
            x.ask(0, 3, 8);
            x.back();
            due("what is done behind it doesn't change what was kept", x.setOf(0), 3);
            due("SHOWS", x.ask(0, 3, 1), 1);
        });
        edge("STUCK: nothing was", () -> {
            refuses("a new object", STUCK, Edges::fresh, MouldThatComesOff::back);
            refuses("one with PIECES", STUCK, Edges::lids, MouldThatComesOff::back);
            MouldThatComesOff x = fresh();
            x.back();
            x.image();
            due("something was", x.back(), 1);
        });
    }

    private static MouldThatComesOff imaged() {
        MouldThatComesOff x = rich();
        x.image();
        return x;
    }

    private static void status() {
        under("Promise 54: status");
        edge("SIZE (0)", () -> {
            for (int n = 2; n <= 4; n++) due("status(0)", sized(n).status(0), n);
        });
        edge("solid CUBES (1)", () -> {
            due("none", fresh().status(1), 0);
            due("some", rich().status(1), 8);
            due("all", formed(4, -1).status(1), 64);
        });
        edge("PIECES (2)", () -> {
            due("none", fresh().status(2), 0);
            due("one that is OFF counts", rich().status(2), 3);
            due("eight", withPieces(fresh(), 8).status(2), 8);
        });
        edge("OFF (3)", () -> {
            due("none", lids().status(3), 0);
            due("one", rich().status(3), 1);
            due("all", takenOff().status(3), 3);
        });
        edge("HEAVY (4)", () -> due("status(4)", fresh().status(4) + rich().status(4), 64 + 33));
        edge("WEAR (5)", () -> due("status(5)", fresh().status(5) + rich().status(5), 100 + 44));
        edge("THE TAPE's size (6)", () -> {
            due("empty", fresh().status(6), 0);
            due("full", TermEdges.filled(250).status(6), 250);
        });
        edge("SHELVES that hold something (7)", () -> {
            MouldThatComesOff x = fresh();
            for (int s = 0; s < 8; s++) {
                due("status(7)", x.status(7), s);
                due("a ROW of none", x.row(s, 0, 0), 1);
            }
            x.move(0, 1, 0, 0);
            due("all", x.status(7), 8);
        });
        edge("12 to 16: REFUSALS -2 to -6", () -> {
            MouldThatComesOff x = withPieces(rich(), 8);
            for (int k = 0; k < 5; k++) x.size(9);
            for (int k = 0; k < 4; k++) x.comes(1, 0);
            for (int k = 0; k < 3; k++) x.comes(2, 0);
            for (int k = 0; k < 2; k++) x.alter(1, 0);
            x.piece(0);
            for (int what = 12; what <= 16; what++) due("status(" + what + ")", x.status(what), 17 - what);
            due("status() itself counts for none", x.status(12), 5);
        });
        edge("NONE another what", () -> {
            MouldThatComesOff x = rich();
            for (int what : new int[] {-1, 8, 9, 10, 11, 17, 18, LEAST, MOST}) due("what " + what, x.status(what), NONE);
            for (int what = 12; what <= 16; what++) due("it is not refused", x.status(what), 0);
        });
    }
}
