import java.util.List;

/** The words under "Terms", but for the texts that are read. */
final class TermEdges extends Edges {
    static void run() {
        under("What it is");
        edge("An object is used for at most 512 calls after it has been made", () -> {
            MouldThatComesOff x = fresh();
            for (int k = 1; k < 512; k++) x.size(5);
            due("the 512th call, status(12)", x.status(12), 511);
        });
        under("Terms");
        block();
        figure();
        whole();
        kinds();
        comes();
        parting();
        order();
        free();
        parted();
        halvesAndCuts();
        facesAndCasts();
        shelves();
        refusals();
    }

    private static void block() {
        edge("SIZE n (2 to 4; 3 at first)", () -> {
            due("at first", fresh().status(0), 3);
            for (int n = 2; n <= 4; n++) due("status(0)", sized(n).status(0), n);
            for (int n : new int[] {1, 5, 0, -3, LEAST, MOST}) refuses("size(" + n + ")", BAD, x -> x.size(n));
        });
        edge("CUBES 0 to n n n less 1", () -> {
            for (int n = 2; n <= 4; n++) {
                int count = n * n * n;
                MouldThatComesOff x = sized(n);
                due("free(-1)", x.free(-1), BAD);
                due("free(0)", x.free(0), 63);
                due("free of the last", x.free(count - 1), 63);
                due("free behind the last", x.free(count), BAD);
                due("how many", Long.bitCount(x.cubes(1)), count);
                due("the greatest", 63 - Long.numberOfLeadingZeros(x.cubes(1)), count - 1);
            }
        });
        edge("x, and n times y, and n n times z (0 to n less 1 each)", () -> {
            for (int n = 2; n <= 4; n++) eachStep(n);
        });
        edge("WAYS: 0 x more, 1 x less, 2 y more, 3 y less, 4 z more, 5 z less", () -> {
            int[] to = {14, 12, 16, 10, 22, 4};
            MouldThatComesOff x = fresh();
            for (int way = 0; way < 6; way++) {
                x.move(0, 1, way, 0);
                due("from 13 by " + way, x.slide(0, bits(13), 1), bits(to[way]));
            }
            due("move by -1", x.move(0, 1, -1, 0), BAD);
            due("move by 6", x.move(0, 1, 6, 0), BAD);
        });
        edge("Two CUBES are BESIDE each other, if one WAY leads from one to the other", () -> {
            for (int n = 2; n <= 4; n++) eachPair(n);
        });
        edge("Sets of CUBES are told as bits of a long number", () -> {
            MouldThatComesOff x = sized(4);
            due("the last cube", x.solid(Long.MIN_VALUE, true), 1);
            due("cubes(0)", x.cubes(0), Long.MIN_VALUE);
            due("free(63)", x.free(63), STUCK);
            due("cubes(1)", x.cubes(1), Long.MAX_VALUE);
            due("cube 31", x.solid(1L << 31, true), 1);
            due("alone", x.cubes(0), Long.MIN_VALUE | 1L << 31);
            due("cube 32", x.solid(1L << 32, true), 1);
            due("alone", x.cubes(0), Long.MIN_VALUE | 3L << 31);
        });
    }

    private static void eachStep(int n) {
        int[] stride = {1, n, n * n};
        MouldThatComesOff x = sized(n);
        for (int way = 0; way < 6; way++) x.move(way, 1, way, 0);
        for (int c = 0; c < n * n * n; c++) for (int way = 0; way < 6; way++) {
            int place = c / stride[way / 2] % n;
            boolean out = place == (way % 2 == 0 ? n - 1 : 0);
            long want = out ? 0 : 1L << (way % 2 == 0 ? c + stride[way / 2] : c - stride[way / 2]);
            due("of " + n + " from " + c + " by " + way, x.slide(way, 1L << c, 1), want);
        }
    }

    private static void eachPair(int n) {
        for (int c = 0; c < n * n * n; c++) {
            MouldThatComesOff x = sized(n);
            for (int d = 0; d < c; d++) {
                int far = Math.abs(c % n - d % n) + Math.abs(c / n % n - d / n % n) + Math.abs(c / n / n - d / n / n);
                due("of " + n + ": " + d + " and " + c, x.whole(bits(c, d)), far == 1 ? 1 : 0);
            }
        }
    }

    private static void figure() {
        edge("THE FIGURE: CUBES that are solid (none at first)", () -> {
            due("cubes(0)", fresh().cubes(0), 0);
            due("status(1)", fresh().status(1), 0);
            due("of another size", sized(4).cubes(0), 0);
        });
        edge("PIECES 0 on, 8 at most: sets of CUBES", () -> {
            MouldThatComesOff x = fresh();
            for (int p = 0; p < 8; p++) due("piece", x.piece(bits(p)), p);
            due("the ninth", x.piece(bits(8)), FULL);
            for (int p = 0; p < 8; p++) due("its set", x.setOf(p), bits(p));
        });
        edge("OFF or not (at first not)", () -> {
            MouldThatComesOff x = fresh();
            x.move(0, 1, 0, 0);
            x.piece(1);
            due("status(3)", x.status(3), 0);
            x.step();
            due("one that comes behind one that is off", x.piece(2), 1);
            due("status(3)", x.status(3), 1);
            due("its loose", x.loose(1), 0);
            due("by a text", readText(x, "piece"), 1);
            due("status(3)", x.status(3), 1);
            due("its loose", x.loose(2), 0);
        });
        edge("SHOWS of a CUBE (0 to 9; 1 at first)", () -> {
            for (int n = 2; n <= 4; n++) {
                MouldThatComesOff x = sized(n);
                for (int c = 0; c < n * n * n; c++) due("of " + c, x.ask(0, c, 9), 1);
                for (int c = 0; c < n * n * n; c++) due("of " + c, x.ask(0, c, 0), 9);
                due("0 could be", x.ask(0, 0, 1), 0);
            }
            for (int v : new int[] {-1, 10, LEAST, MOST}) refuses("SHOWS " + v, BAD, x -> x.ask(0, 5, v));
        });
        edge("HEAVY (1 to 64; 64 at first): how many CUBES a PIECE may have", () -> {
            MouldThatComesOff x = sized(4);
            x.piece(-1);
            due("at first 64", x.wrong(true), 0);
            due("63", x.ask(1, 0, 63), 64);
            due("64 are too many", x.wrong(true), 4);
            x.alter(0, -2);
            due("63 are not", x.wrong(true), 5);
            due("1", x.ask(1, 0, 1), 63);
            x.alter(0, 3);
            due("2 are too many", x.wrong(true), 4);
            x.alter(0, 1);
            due("1 is not", x.wrong(true), 5);
            for (int v : new int[] {0, 65, -1, LEAST, MOST}) refuses("HEAVY " + v, BAD, y -> y.ask(1, 0, v));
        });
        edge("WEAR (1 to 999; 100 at first)", () -> {
            MouldThatComesOff x = fresh();
            due("999", x.ask(2, 0, 999), 100);
            due("1", x.ask(2, 0, 1), 999);
            due("status(5)", x.status(5), 1);
            for (int v : new int[] {0, 1000, -1, LEAST, MOST}) refuses("WEAR " + v, BAD, y -> y.ask(2, 0, v));
        });
    }

    private static void whole() {
        edge("A set is WHOLE, if each CUBE of it leads to each other one by CUBES of it BESIDE each other", () -> {
            MouldThatComesOff x = sized(4);
            due("one", x.whole(bits(63)), 1);
            due("two apart", x.whole(bits(0, 2)), 0);
            due("by a cube between", x.whole(bits(0, 1, 2)), 1);
            due("by their edges alone", x.whole(bits(0, 5)), 0);
            due("by their corners alone", x.whole(bits(0, 21)), 0);
            due("all", x.whole(-1), 1);
            int[] snake = {0, 1, 2, 3, 7, 11, 10, 9, 8, 12, 28, 44, 60, 61, 62, 63, 59, 55, 54, 53, 52, 48};
            due("a snake", x.whole(bits(snake)), 1);
            for (int k = 1; k < snake.length - 1; k++) due("without " + snake[k], x.whole(bits(snake) & ~bits(snake[k])), 0);
        });
        edge("(an empty set is)", () -> {
            for (int n = 2; n <= 4; n++) due("whole(0)", sized(n).whole(0), 1);
        });
    }

    private static void kinds() {
        edge("MOVES have a KIND, WAYS a, b (0 to 5)", () -> {
            for (int kind = 1; kind <= 5; kind++) {
                MouldThatComesOff x = fresh();
                for (int way = 0; way < 6; way++) {
                    due("move", x.move(way, kind, way, 5 - way), 1);
                    due("its a", x.says(way, 0), way);
                    if (kind == 2 || kind == 5) due("its b", x.says(way, kind), 5 - way);
                }
                int k = kind;
                for (int way : new int[] {-1, 6, LEAST, MOST}) {
                    refuses("a " + way + " of KIND " + kind, BAD, y -> y.move(0, k, way, 0));
                    refuses("b " + way + " of KIND " + kind, BAD, y -> y.move(0, k, 0, way));
                }
            }
        });
        edge("0 MOVE", () -> {
            MouldThatComesOff x = fresh();
            for (int kind = 1; kind <= 5; kind++) {
                x.move(0, kind, 3, 0);
                due("KIND " + kind + " taken for MOVE", x.says(0, 0), 3);
            }
            refuses("a MOVE of no other KIND", BAD, y -> y.move(2, 0, 0, 0));
        });
        edge("1 STRAIGHT, under MOVE: by a, step by step, till all is out of the block", () -> {
            for (int n = 2; n <= 4; n++) {
                MouldThatComesOff x = formed(n, bits(n - 1));
                x.move(0, 1, 0, 3);
                due("the last step of the hindmost meets it", x.comes(0, bits(0)), 0);
                due("so of a long set", x.comes(0, all(n) & ~bits(n - 1) & (1L << n) - 1), 0);
                for (int k = 0; k < n; k++) due("behind " + k, x.slide(0, bits(0), k), bits(k));
                due("behind n", x.slide(0, bits(0), n), 0);
            }
        });
        edge("3 CORE, under STRAIGHT: likewise, but just for a set that lies in one row along a", () -> {
            for (int n = 2; n <= 4; n++) {
                MouldThatComesOff x = sized(n);
                int[] stride = {1, n, n * n};
                for (int way = 0; way < 6; way++) {
                    x.move(0, 3, way, 0);
                    long row = 0;
                    for (int k = 0; k < n; k++) row |= 1L << k * stride[way / 2];
                    due("a full row", x.comes(0, row), 1);
                    due("its ends alone", x.comes(0, 1 | Long.highestOneBit(row)), 1);
                    due("one beside it, too", x.comes(0, row | 1L << stride[(way / 2 + 1) % 3]), 0);
                    due("two rows, a cube each", x.comes(0, 1 | 1L << stride[(way / 2 + 2) % 3]), 0);
                    due("all", x.comes(0, -1), 0);
                }
                x.move(0, 3, 0, 0);
                x.solid(bits(n - 1), true);
                due("past what is ahead", x.comes(0, bits(0)), 0);
                due("in another row", x.comes(0, bits(n)), 1);
            }
        });
        edge("4 HALF, under STRAIGHT: likewise, but just for a set that has a CUBE at the block's end towards a", () -> {
            for (int n = 2; n <= 4; n++) {
                int[] stride = {1, n, n * n};
                for (int way = 0; way < 6; way++) {
                    MouldThatComesOff x = sized(n);
                    x.move(0, 4, way, 0);
                    int end = way % 2 == 0 ? (n - 1) * stride[way / 2] : 0;
                    int other = way % 2 == 0 ? (n - 2) * stride[way / 2] : stride[way / 2];
                    due("at the end", x.comes(0, bits(end)), 1);
                    due("one ahead of the end", x.comes(0, bits(other)), 0);
                    due("both", x.comes(0, bits(end, other)), 1);
                    x.solid(bits(end), true);
                    due("past what is ahead", x.comes(0, bits(end, other)), 0);
                }
            }
        });
        edge("2 LIFT, under MOVE: one step by a, then by b till all is out", () -> {
            MouldThatComesOff x = sized(4);
            x.move(0, 2, 2, 0);
            long[] at = {bits(0), bits(4), bits(5), bits(6), bits(7), 0};
            for (int k = 0; k < at.length; k++) due("behind " + k, x.slide(0, bits(0), k), at[k]);
            x.solid(bits(7), true);
            due("meets what is at its last step", x.comes(0, bits(0)), 0);
            due("two steps by a would", x.comes(0, bits(60)), 1);
            x.solid(-1, false);
            x.solid(bits(1, 2, 3, 8, 9, 10, 11), true);
            due("between", x.comes(0, bits(0)), 1);
        });
        edge("5 FAR, under LIFT: two steps by a, then by b", () -> {
            MouldThatComesOff x = sized(4);
            x.move(0, 5, 2, 0);
            long[] at = {bits(0), bits(4), bits(8), bits(9), bits(10), bits(11), 0};
            for (int k = 0; k < at.length; k++) due("behind " + k, x.slide(0, bits(0), k), at[k]);
            due("taken for LIFT", x.says(0, 2), 0);
            for (int c : new int[] {4, 8, 9, 10, 11}) due("past " + c, comesPast(x, bits(0), bits(c)), 0);
            for (int c : new int[] {0, 1, 5, 6, 7, 12, 13}) due("past " + c, comesPast(x, bits(0), bits(c)), 1);
        });
    }

    private static int comesPast(MouldThatComesOff x, long set, long figure) {
        x.solid(-1, false);
        x.solid(figure, true);
        return x.comes(0, set);
    }

    private static void comes() {
        edge("A set COMES by a MOVE past others, if at no step a CUBE of it (inside the block) is one of those", () -> {
            MouldThatComesOff x = fresh();
            x.move(0, 1, 0, 0);
            due("nothing is there", comesPast(x, -1, 0), 1);
            due("the next one", comesPast(x, bits(0), bits(1)), 0);
            due("the last one", comesPast(x, bits(0), bits(2)), 0);
            due("one behind it", comesPast(x, bits(1), bits(0)), 1);
            due("the next row", comesPast(x, bits(2), bits(3)), 1);
            due("one of many", comesPast(x, bits(3, 9, 13, 25), bits(26)), 0);
            due("where it lies is no step", comesPast(x, bits(2), bits(2)), 1);
            x.move(0, 2, 0, 1);
            due("but to come back there is one", comesPast(x, bits(1), bits(1)), 0);
        });
        edge("(A CUBE that has left the block is gone", () -> {
            MouldThatComesOff x = sized(2);
            x.move(0, 2, 0, 1);
            due("it doesn't come back", x.slide(0, bits(1), 2), 0);
            due("nor meets anything", comesPast(x, bits(1), bits(0, 1)), 1);
            x.move(0, 5, 0, 2);
            due("by the second step, too", comesPast(x, bits(0), bits(2, 3)), 1);
            x.move(0, 1, 0, 0);
            due("and isn't in the next row", comesPast(x, bits(1), bits(2)), 1);
        });
        edge("An empty set COMES by any MOVE.)", () -> {
            for (int kind = 1; kind <= 5; kind++) {
                MouldThatComesOff x = formed(3, -1);
                x.move(0, kind, 0, 0);
                due("KIND " + kind, x.comes(0, 0), 1);
                x.piece(0);
                due("so a PIECE", x.loose(0), 0);
            }
        });
    }

    private static void wrongIs(MouldThatComesOff x, int by, int at) {
        due("wrong(true)", x.wrong(true), by);
        due("wrong(false)", x.wrong(false), at);
    }

    /** A block of 2 with PIECES of these sets, CUBE 7 being solid. */
    private static MouldThatComesOff partedAs(long... sets) {
        MouldThatComesOff x = formed(2, bits(7));
        for (long set : sets) x.piece(set);
        return x;
    }

    private static void parting() {
        edge("A PARTING (PIECES that aren't OFF)", () -> {
            MouldThatComesOff x = partedAs(bits(7), bits(0));
            x.move(0, 1, 0, 0);
            wrongIs(x, 1, 0);
            x.step();
            wrongIs(x, 0, NONE);
            x.alter(1, bits(0, 3));
            x.again();
            x.alter(0, bits(0));
            x.step();
            wrongIs(x, 3, 1);
        });
        edge("is WRONG by the first of these, at the first PIECE or CUBE", () -> {
            MouldThatComesOff x = partedAs(0, bits(0, 1), bits(1, 7), bits(7));
            x.ask(1, 0, 1);
            wrongIs(x, 1, 2);
            x.alter(2, bits(1));
            wrongIs(x, 1, 3);
            x.alter(3, bits(1));
            wrongIs(x, 2, 2);
            x.alter(2, bits(2));
            wrongIs(x, 2, 3);
            x.alter(3, 0);
            wrongIs(x, 3, 0);
            x.alter(0, bits(3));
            wrongIs(x, 3, 3);
            x.alter(3, bits(4));
            wrongIs(x, 4, 1);
            x.alter(1, bits(1));
            wrongIs(x, 5, 0);
        });
        edge("1 a PIECE has a CUBE of THE FIGURE", () -> {
            wrongIs(partedAs(127), 0, NONE);
            wrongIs(partedAs(255), 1, 0);
            wrongIs(partedAs(63, bits(6, 7)), 1, 1);
        });
        edge("2 two PIECES have a CUBE (the greater of them)", () -> {
            wrongIs(partedAs(63, bits(6)), 0, NONE);
            wrongIs(partedAs(63, bits(5, 6)), 2, 1);
            wrongIs(partedAs(bits(0), 126, bits(0)), 2, 2);
            wrongIs(partedAs(bits(0), bits(1), bits(1), bits(0)), 2, 2);
            MouldThatComesOff x = partedAs(bits(0), 127);
            x.move(0, 1, 1, 0);
            due("off", x.step(), 0);
            wrongIs(x, 0, NONE);
        });
        edge("3 a PIECE is empty or not WHOLE", () -> {
            wrongIs(partedAs(127, 0), 3, 1);
            wrongIs(partedAs(bits(0, 3), 127 & ~bits(0, 3)), 3, 0);
            wrongIs(partedAs(bits(0), 126), 0, NONE);
        });
        edge("4 a PIECE has more than HEAVY", () -> {
            MouldThatComesOff x = partedAs(bits(0, 1), 124);
            x.ask(1, 0, 5);
            wrongIs(x, 0, NONE);
            x.ask(1, 0, 4);
            wrongIs(x, 4, 1);
            x.ask(1, 0, 1);
            wrongIs(x, 4, 0);
        });
        edge("5 an empty CUBE is in no PIECE", () -> {
            wrongIs(partedAs(), 5, 0);
            wrongIs(partedAs(1), 5, 1);
            wrongIs(partedAs(63), 5, 6);
            wrongIs(partedAs(127), 0, NONE);
            wrongIs(formed(2, -1), 0, NONE);
            MouldThatComesOff x = sized(4);
            x.piece(Long.MAX_VALUE);
            wrongIs(x, 5, 63);
        });
        edge("(told only while no PIECE is OFF)", () -> {
            MouldThatComesOff x = partedAs(bits(0), bits(1));
            x.move(0, 1, 2, 0);
            wrongIs(x, 5, 2);
            x.step();
            wrongIs(x, 0, NONE);
            x.again();
            wrongIs(x, 5, 2);
        });
    }

    private static void order() {
        edge("A PIECE is LOOSE, if it COMES by a MOVE on a SHELF past THE FIGURE and all other PIECES that aren't OFF", () -> {
            MouldThatComesOff x = fresh();
            x.piece(bits(0));
            due("no SHELF has a MOVE", x.loose(0), NONE);
            x.move(7, 1, 0, 0);
            due("the last one has", x.loose(0), 7);
            x.solid(bits(2), true);
            due("past THE FIGURE", x.loose(0), NONE);
            x.solid(bits(2), false);
            x.piece(bits(1));
            due("past another PIECE", x.loose(0), NONE);
            x.step();
            due("that is OFF now", x.loose(0), 7);
            x.alter(0, bits(0, 1));
            due("its own CUBES don't count", x.loose(0), 7);
        });
        edge("THE ORDER: again and again the first LOOSE PIECE, by the first such SHELF, is taken off", () -> {
            MouldThatComesOff x = fresh();
            for (int c : new int[] {0, 2, 1, 13}) x.piece(bits(c));
            x.move(3, 1, 0, 0);
            x.move(6, 1, 2, 0);
            x.move(1, 3, 4, 0);
            x.alter(3, bits(13, 14));
            orderIs(x, new int[] {0, 1, 2, 3}, new int[] {1, 1, 1, 3});
            x.row(1, 0, 0);
            orderIs(x, new int[] {0, 1, 2, 3}, new int[] {6, 3, 3, 3});
            x.row(6, 0, 0);
            orderIs(x, new int[] {1, 2, 0, 3}, new int[] {3, 3, 3, 3});
            x.row(3, 0, 0);
            orderIs(x, new int[] {}, new int[] {});
        });
        edge("THE RING: those that are left, none being LOOSE", () -> {
            MouldThatComesOff x = fresh();
            due("no PIECES", x.ring(), 0);
            for (int p = 0; p < 8; p++) x.piece(bits(p));
            due("no MOVES: all", x.ring(), 255);
            x.move(0, 1, 0, 0);
            due("all come off", x.ring(), 0);
            x.alter(0, bits(0, 4));
            x.alter(1, bits(1, 3));
            x.alter(3, bits(9));
            x.alter(4, bits(12));
            due("two that bar each other", x.ring(), 3);
            x.alter(7, bits(0, 4));
            due("what they are one with, too", x.ring(), 131);
        });
    }

    private static void orderIs(MouldThatComesOff x, int[] pieces, int[] shelves) {
        for (int i = 0; i < pieces.length; i++) {
            due("order(" + i + ", 0)", x.order(i, 0), pieces[i]);
            due("order(" + i + ", 1)", x.order(i, 1), shelves[i]);
        }
        due("behind the last", x.order(pieces.length, 0), NONE);
        due("behind the last", x.order(pieces.length, 1), NONE);
    }

    private static void free() {
        edge("FREE of an empty CUBE: WAYS (bits) in which no CUBE of THE FIGURE is ahead of it", () -> {
            for (int n = 2; n <= 4; n++) {
                MouldThatComesOff x = formed(n, bits(n - 1));
                due("far ahead", x.free(0), 62);
                due("in the next row", x.free(n), 63);
                due("behind it", x.free(2 * n - 1), 63 - 8);
                x.solid(-1, false);
                x.solid(bits(0), true);
                due("far ahead, by less", x.free(n - 1), 61);
                due("y", x.free(n * n - n), 63 - 8);
                due("z", x.free(n * n * n - n * n), 63 - 32);
                x.solid(-2, true);
                x.solid(bits(0), false);
                due("alone in a corner", x.free(0), 2 | 8 | 32);
            }
        });
        edge("NEVER: empty CUBES that are FREE by none", () -> {
            due("none solid", fresh().cubes(2), 0);
            due("none empty", formed(3, -1).cubes(2), 0);
            due("the middle", formed(3, ~bits(13)).cubes(2), bits(13));
            due("open by one WAY", formed(3, ~bits(13, 14)).cubes(2), 0);
            due("the eight of the middle of 4", formed(4, ~bits(21, 22, 25, 26, 37, 38, 41, 42)).cubes(2), bits(21, 22, 25, 26, 37, 38, 41, 42));
            due("of 2 there is no middle", formed(2, bits(0, 3, 5, 6)).cubes(2), 0);
        });
        edge("A set of WAYS SERVES, if each empty CUBE is FREE by one of them", () -> {
            due("no WAY, one empty CUBE", formed(2, 127).serves(0), 0);
            due("no WAY, no empty CUBE", formed(2, 255).serves(0), 1);
            due("one CUBE is left out", formed(3, bits(0)).serves(2), 0);
            due("none is", formed(3, bits(0)).serves(1), 1);
            due("two together", formed(3, bits(13)).serves(3), 1);
            due("all, and one NEVER", formed(3, ~bits(13)).serves(63), 0);
        });
        edge("FEWEST: of all sets of WAYS that SERVE the one of the fewest WAYS, of several the least as bits", () -> {
            due("none is needed", formed(3, -1).fewest(), 0);
            due("each would do", fresh().fewest(), 1);
            due("one, though two lesser would", formed(3, bits(2, 8, 20, 26, 5, 11, 14, 17, 23)).fewest(), 2);
            due("the greatest alone", formed(3, ~bits(4)).fewest(), 32);
            due("two of them", formed(3, bits(13)).fewest(), 3);
            due("all six", formed(3, bits(0, 2, 6, 8, 18, 20, 24, 26, 1, 3, 5, 7, 9, 11, 15, 17, 19, 21, 23, 25, 13)).fewest(), 63);
        });
    }

    private static void parted() {
        edge("PARTED by a set of WAYS that SERVES: each empty CUBE belongs to the least of its WAYS by which it is FREE", () -> {
            MouldThatComesOff x = formed(3, bits(13));
            due("make(63)", x.make(63), 2);
            due("by x more", x.setOf(0), all(3) & ~bits(12, 13));
            due("by x less", x.setOf(1), bits(12));
            due("make(62): not x more", x.make(62), 2);
            due("by x less", x.setOf(0), all(3) & ~bits(13, 14));
            due("by y more", x.setOf(1), bits(14));
            due("make(48)", x.make(48), 2);
            due("by z more", x.setOf(0), all(3) & ~bits(4, 13));
            due("by z less", x.setOf(1), bits(4));
        });
        edge("PARTS: the WHOLE ones that can't be made greater, of CUBES of one WAY each", () -> {
            due("one", fresh().parted(63, 0), 1);
            due("none", formed(3, -1).parted(63, 0), 0);
            due("of one WAY, apart", formed(3, ~bits(2, 8)).parted(1, 0), 2);
            due("of one WAY, together", formed(3, ~bits(2, 5)).parted(1, 0), 1);
            due("together, but of two WAYS", formed(2, ~bits(0, 1) & bits(2, 3, 4, 5, 6, 7)).parted(1, 0), 1);
            MouldThatComesOff x = formed(3, bits(10));
            due("9 by x less, the others by x more", x.parted(3, 0), 2);
        });
        edge("SEAM: the sum of SHOWS of both, of all pairs of empty CUBES BESIDE each other that belong to unlike WAYS", () -> {
            due("no pairs", fresh().parted(1, 1), 0);
            due("none empty", formed(3, -1).parted(0, 1), 0);
            MouldThatComesOff x = formed(3, bits(13));
            due("12 has 3, 9, 15 and 21 beside it", x.parted(3, 1), 8);
            x.ask(0, 12, 0);
            due("of the others alone", x.parted(3, 1), 4);
            for (int c : new int[] {3, 9, 15, 21}) x.ask(0, c, 0);
            due("nothing shows", x.parted(3, 1), 0);
            for (int c : new int[] {3, 9, 12, 15, 21}) x.ask(0, c, 9);
            due("all that can show", x.parted(3, 1), 72);
            x.ask(0, 13, 9);
            x.ask(0, 0, 9);
            due("solid ones and others don't count", x.parted(3, 1), 72);
        });
        edge("HIDDEN: of all sets that SERVE that of the least SEAM, of several the least as bits", () -> {
            due("none is needed", formed(3, -1).hidden(), 0);
            due("all have no SEAM", fresh().hidden(), 1);
            MouldThatComesOff x = formed(3, bits(13));
            due("all alike", x.hidden(), 3);
            for (int c : new int[] {3, 9, 15, 21}) x.ask(0, c, 2);
            due("12 shows more: by x less, and 14 by y more", x.hidden(), 6);
            for (int c = 0; c < 27; c++) x.ask(0, c, 0);
            due("nothing shows", x.hidden(), 3);
        });
    }

    private static void halvesAndCuts() {
        edge("HALVES across an axis (0 x, 1 y, 2 z): at a height h (0 to n)", () -> {
            for (int n = 2; n <= 4; n++) for (int axis = 0; axis < 3; axis++) {
                int[] stride = {1, n, n * n};
                due("all heights", sized(n).halves(axis), (2 << n) - 1);
                due("0 and 1", formed(n, bits(0)).halves(axis), 3);
                due("n less 1 and n", formed(n, bits((n - 1) * stride[axis])).halves(axis), 3 << n - 1);
            }
        });
        edge("empty CUBES below h go by less, others by more: a plane DOES, if each is FREE so", () -> {
            due("below and above 1", formed(3, bits(13)).halves(0), 6);
            due("through a row without gaps", formed(4, bits(1, 2)).halves(0), 2 | 4 | 8);
            due("across a gap", formed(3, bits(0, 2)).halves(0), 0);
            due("two rows that want other heights", formed(3, bits(0, 5)).halves(0), 0);
            due("two rows that share one", formed(3, bits(0, 4)).halves(0), 2);
            due("no empty ones", formed(4, -1).halves(2), 31);
        });
        edge("LINE: whether it can be done by some seam: in each row along the axis the solid CUBES lie one behind the other without a gap", () -> {
            due("no solid ones", sized(4).line(0), 1);
            due("one", formed(4, bits(63)).line(0), 1);
            due("all", formed(4, -1).line(2), 1);
            for (int axis = 0; axis < 3; axis++) {
                int[] stride = {1, 4, 16};
                int at = stride[axis];
                due("a gap of one", formed(4, bits(0, 2 * at)).line(axis), 0);
                due("of two", formed(4, bits(0, 3 * at)).line(axis), 0);
                due("none", formed(4, bits(at, 2 * at)).line(axis), 1);
                due("a full row", formed(4, bits(0, at, 2 * at, 3 * at)).line(axis), 1);
                due("two rows that no plane serves", formed(4, bits(0, 3 * at + stride[(axis + 1) % 3])).line(axis), 1);
            }
            due("the end of one row, the start of the next", formed(4, bits(3, 4)).line(0), 1);
        });
        edge("CUT of THE FIGURE at a height h (1 to n less 1) of an axis: both of its parts, each alone in the block: FEWEST of each, together", () -> {
            for (int n = 2; n <= 4; n++) for (int axis = 0; axis < 3; axis++) {
                MouldThatComesOff x = sized(n);
                for (int h = 1; h < n; h++) due("nothing solid", x.cut(axis, h), 2);
                due("at 0", x.cut(axis, 0), BAD);
                due("at n", x.cut(axis, n), BAD);
            }
            due("all solid", formed(3, -1).cut(0, 1), 2);
            due("all in the part above", formed(3, bits(13)).cut(1, 1), 3);
            due("all in the part below", formed(3, bits(13)).cut(1, 2), 3);
            due("one in each", formed(3, bits(4, 13)).cut(2, 1), 3);
        });
        edge("BEST CUT: the least such number (a part that has NEVER ones counts 9), of several the least axis, then height", () -> {
            due("of all the first", sized(4).best(), 1);
            MouldThatComesOff x = formed(4, ~bits(42));
            due("42 stays shut", x.cut(0, 1), 10);
            due("42 is open", x.cut(0, 2), 2);
            due("the lesser height", x.best(), 2);
            MouldThatComesOff y = formed(4, ~bits(21, 42));
            due("both parts have NEVER ones", y.cut(1, 2), 2);
            due("the lesser axis", y.best(), 2);
            MouldThatComesOff z = formed(4, ~bits(21, 37));
            due("two, one behind the other along z", z.cut(2, 2), 2);
            due("beside both", z.best(), 1);
            MouldThatComesOff w = formed(4, ~bits(21, 22, 25, 26, 37, 38, 41, 42));
            for (int axis = 0; axis < 3; axis++) {
                due("a hollow of two layers, at its side", w.cut(axis, 1), 2);
                due("at its middle", w.cut(axis, 2), 2);
            }
        });
    }

    private static void facesAndCasts() {
        edge("FACES of a PIECE: pairs of a CUBE of it and a CUBE of THE FIGURE BESIDE each other", () -> {
            MouldThatComesOff x = formed(3, bits(13));
            x.piece(0);
            x.piece(all(3) & ~bits(13));
            x.piece(bits(0));
            x.piece(bits(13));
            due("of an empty one", x.faces(0), 0);
            due("all around", x.faces(1), 6);
            due("far from it", x.faces(2), 0);
            due("on it", x.faces(3), 0);
            x.solid(-1, true);
            x.solid(bits(13), false);
            due("a CUBE with six", x.faces(3), 6);
            due("none over the edge", formedPiece(3, bits(3), bits(2)).faces(0), 0);
        });
        edge("CASTS: WEAR by the greatest number of FACES of a PIECE, cut (999: there are none)", () -> {
            due("no PIECES", fresh().casts(), 999);
            MouldThatComesOff x = formed(3, bits(13));
            x.piece(bits(0));
            due("no FACES", x.casts(), 999);
            x.ask(2, 0, 1);
            due("nor by a WEAR of 1", x.casts(), 999);
            x.piece(all(3) & ~bits(13));
            due("1 by 6", x.casts(), 0);
            x.ask(2, 0, 11);
            due("11 by 6", x.casts(), 1);
            x.ask(2, 0, 12);
            due("12 by 6", x.casts(), 2);
            x.ask(2, 0, 999);
            due("999 by 6", x.casts(), 166);
            x.alter(0, bits(4));
            due("the greatest counts, not the last", x.casts(), 166);
            x.alter(1, bits(10));
            due("999 by 1", x.casts(), 999);
        });
    }

    private static MouldThatComesOff formedPiece(int n, long figure, long piece) {
        MouldThatComesOff x = formed(n, figure);
        x.piece(piece);
        return x;
    }

    private static void shelves() {
        edge("SHELVES 0 to 7 hold NOTHING (at first), a ROW, or a MOVE", () -> {
            MouldThatComesOff x = fresh();
            for (int s = 0; s < 8; s++) due("holds", x.holds(s), NONE);
            due("status(7)", x.status(7), 0);
            for (int s = 0; s < 8; s++) due(s < 4 ? "row" : "move", s < 4 ? x.row(s, s, 1) : x.move(s, 1, 0, 0), 1);
            for (int s = 0; s < 8; s++) due("holds", x.holds(s), s < 4 ? s : 11);
            for (int s : NO_SHELVES) {
                due("holds", x.holds(s), NONE);
                due("row", x.row(s, 0, 0), BAD);
                due("move", x.move(s, 1, 0, 0), BAD);
            }
            due("status(7)", x.status(7), 8);
            due("a MOVE for a ROW", x.move(0, 2, 0, 0), 1);
            due("no ROW is there now", x.set(0, 0, 1), OTHER);
            due("a ROW for a MOVE", x.row(4, 0, 1), 1);
            due("no MOVE is there now", x.comes(4, 0), OTHER);
        });
        edge("A ROW has a SORT (0 bytes, 1 shorts, 2 ints, 3 longs, 4 booleans) and 0 to 40 elements (0, or not so, at first)", () -> {
            for (int sort = 0; sort <= 4; sort++) {
                MouldThatComesOff x = fresh();
                due("of 40", x.row(0, sort, 40), 1);
                for (int i = 0; i < 40; i++) due("at first", x.element(0, i), 0);
                for (int i = 0; i < 40; i++) due("set", x.set(0, i, 1), 1);
                due("a new one", x.row(0, sort, 40), 1);
                for (int i = 0; i < 40; i++) due("at first", x.element(0, i), 0);
                due("of none", x.row(0, sort, 0), 1);
                due("its first", x.set(0, 0, 1), BAD);
            }
            for (int sort : new int[] {-1, 5, LEAST, MOST}) refuses("SORT " + sort, BAD, x -> x.row(2, sort, 1));
            for (int n : new int[] {-1, 41, LEAST, MOST}) refuses(n + " elements", BAD, x -> x.row(2, 0, n));
        });
        edge("what is put in keeps its lowest bits (of booleans: whether it is not 0)", () -> {
            long[] put = {127, 128, 255, 256, 32767, 32768, 65536, 2147483647L, 2147483648L, 4294967296L, Long.MAX_VALUE, Long.MIN_VALUE, -1, -129};
            MouldThatComesOff x = fresh();
            for (int sort = 0; sort <= 4; sort++) x.row(sort, sort, 1);
            for (long v : put) {
                for (int sort = 0; sort <= 4; sort++) x.set(sort, 0, v);
                due("bytes " + v, x.element(0, 0), (byte) v);
                due("shorts " + v, x.element(1, 0), (short) v);
                due("ints " + v, x.element(2, 0), (int) v);
                due("longs " + v, x.element(3, 0), v);
                due("booleans " + v, x.element(4, 0), 1);
            }
        });
        edge("told they are numbers (1, 0)", () -> {
            MouldThatComesOff x = fresh();
            x.row(0, 4, 2);
            x.set(0, 1, -5);
            due("not so", x.element(0, 0), 0);
            due("so", x.element(0, 1), 1);
            x.set(0, 1, 0);
            due("not so any more", x.element(0, 1), 0);
        });
    }

    private static void refusals() {
        edge("REFUSALS (the call answers the number; nothing changes but how many there were", () -> {
            List<Long> before = told(rich());
            MouldThatComesOff x = rich();
            int[] done = {x.size(5), x.comes(1, 1), x.comes(2, 1), x.alter(1, 1)};
            for (int k = 0; k < done.length; k++) due("refused", done[k], -2 - k);
            List<Long> now = told(x);
            for (int k = 0; k < before.size(); k++) due("telling " + k, now.get(k), k < 4 ? before.get(k) + 1 : before.get(k));
        });
        edge("the first that fits as each line has them)", () -> {
            MouldThatComesOff x = rich();
            due("BAD SHELF ahead of BAD i", x.set(8, 9, 0), BAD);
            due("OTHER ahead of BAD i", x.set(0, 9, 0), OTHER);
            due("NOTHING ahead of BAD i", x.set(2, 9, 0), NOTHING);
            due("BAD ahead of OTHER", x.bars(1, 3), BAD);
            due("OTHER ahead of STUCK", x.bars(1, 1), OTHER);
            due("NOTHING ahead of STUCK", x.bars(2, 1), NOTHING);
            due("BAD ahead of FULL", filled(250).feed(0, 5), BAD);
            due("BAD ahead of STUCK", formed(3, ~bits(13)).parted(64, 0), BAD);
            due("OTHER ahead of NOTHING", x.copy(2, 0, 0, 0, 0), OTHER);
        });
        edge("-2 BAD a number that may not be, nothing of that number", () -> {
            refuses("a number that may not be", BAD, x -> x.size(1));
            refuses("no PIECE of that number", BAD, x -> x.faces(3));
        });
        edge("-3 OTHER: a SHELF that holds another thing than is wanted", () -> {
            refuses("a ROW for a MOVE", OTHER, x -> x.helps(1));
            refuses("a MOVE for a ROW", OTHER, x -> x.figure(0));
        });
        edge("-4 NOTHING: a SHELF that holds NOTHING", () -> {
            refuses("for a MOVE", NOTHING, x -> x.helps(2));
            refuses("for a ROW", NOTHING, x -> x.figure(2));
        });
        edge("-5 STUCK: it can't be as things stand", () -> {
            refuses("a PIECE that is OFF", STUCK, x -> x.grow(1));
            refuses("nothing kept", STUCK, Edges::lids, MouldThatComesOff::back);
        });
        edge("-6 FULL", () -> {
            refuses("PIECES", FULL, () -> withPieces(rich(), 8), x -> x.piece(1));
            refuses("THE TAPE", FULL, () -> filled(250), x -> x.feed(1, 1));
        });
    }

    /** THE TAPE has this many bytes. */
    static MouldThatComesOff filled(int bytes) {
        MouldThatComesOff x = fresh();
        while (x.status(6) + 4 <= bytes) x.feed(0x20202020, 4);
        if (x.status(6) < bytes) x.feed(0x20202020, bytes - x.status(6));
        return x;
    }
}
