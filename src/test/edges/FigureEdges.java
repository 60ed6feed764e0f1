/** Promises 9 to 22: THE FIGURE, PIECES, THE TAPE, and sets. */
final class FigureEdges extends Edges {
    static void run() {
        size();
        solid();
        figure();
        piece();
        alter();
        ask();
        feed();
        wipeAndRead();
        cubes();
        setOf();
        wholeAndParts();
        free();
    }

    private static void size() {
        under("Promise 9: size");
        edge("SIZE becomes n, as the statement does", () -> {
            for (int n = 2; n <= 4; n++) {
                MouldThatComesOff x = rich();
                x.size(n);
                due("SIZE", x.status(0), n);
                due("CUBES are empty", x.cubes(0), 0);
                due("as many as there are", x.cubes(1), all(n));
                due("PIECES", x.status(2), 0);
                due("OFF", x.status(3), 0);
                for (int c = 0; c < n * n * n; c++) due("SHOWS", x.ask(0, c, 1), 1);
                due("HEAVY stays", x.status(4), 33);
                due("WEAR stays", x.status(5), 44);
                due("THE TAPE stays", x.status(6), 6);
                due("SHELVES stay", x.status(7), 5);
                due("the first PIECE then", x.piece(1), 0);
                due("is not OFF", x.status(3), 0);
            }
        });
        edge("what it was", () -> {
            MouldThatComesOff x = fresh();
            due("at first", x.size(4), 3);
            due("from 4", x.size(2), 4);
            due("from 2", x.size(2), 2);
            due("refused", x.size(5), BAD);
            due("from 2 still", x.size(3), 2);
        });
        edge("BAD", () -> {
            for (int n : new int[] {1, 5, 0, -1, LEAST, MOST}) refuses("size(" + n + ")", BAD, x -> x.size(n));
        });
    }

    private static void solid() {
        under("Promise 10: solid");
        edge("CUBES of a set are solid, or empty: how many changed", () -> {
            MouldThatComesOff x = sized(2);
            due("none", x.solid(0, true), 0);
            due("all", x.solid(255, true), 8);
            due("solid already", x.solid(255, true), 0);
            due("empty, the set of none", x.solid(0, false), 0);
            due("the ends empty", x.solid(129, false), 2);
            due("empty already", x.solid(129, false), 0);
            due("some of them", x.solid(131, false), 1);
            due("cubes(0)", x.cubes(0), 124);
            due("some solid", x.solid(7, true), 2);
            due("cubes(0)", x.cubes(0), 127);
            x.piece(1);
            x.solid(-1, false);
            due("PIECES stay", x.setOf(0), 1);
        });
        edge("(Bits beyond the block don't count", () -> {
            for (int n = 2; n <= 4; n++) {
                MouldThatComesOff x = sized(n);
                if (n < 4) due("beyond alone", x.solid(~all(n), true), 0);
                due("cubes(0)", x.cubes(0), 0);
                due("all", x.solid(-1, true), n * n * n);
                due("cubes(0)", x.cubes(0), all(n));
                if (n < 4) due("beyond alone", x.solid(~all(n), false), 0);
                due("the last", x.solid(~(all(n) >>> 1), false), 1);
            }
            MouldThatComesOff x = formed(2, -1);
            x.size(4);
            due("nor do they come later", x.cubes(0), 0);
        });
        edge("nothing is refused.)", () -> {
            MouldThatComesOff x = rich();
            x.solid(-1, true);
            x.solid(Long.MIN_VALUE, false);
            for (int what = 12; what <= 16; what++) due("status(" + what + ")", x.status(what), 0);
        });
    }

    private static MouldThatComesOff rowed(int size, int sort, int n, int... ones) {
        MouldThatComesOff x = sized(size);
        x.row(0, sort, n);
        for (int i : ones) x.set(0, i, -1);
        return x;
    }

    private static void figure() {
        under("Promise 11: figure");
        edge("THE FIGURE by elements 0 on of the ROW in SHELF s: CUBE i is solid, if element i is not 0", () -> {
            MouldThatComesOff x = rowed(3, 2, 27, 0, 26);
            x.solid(bits(1, 2), true);
            due("figure", x.figure(0), 2);
            due("the others are empty", x.cubes(0), bits(0, 26));
            for (int sort = 0; sort <= 4; sort++) due("SORT " + sort, rowed(2, sort, 8, 3).figure(0), 1);
            x = rowed(2, 0, 8);
            x.set(0, 5, 256);
            due("256 as a byte is 0", x.figure(0), 0);
            x.row(0, 3, 8);
            x.set(0, 5, Long.MIN_VALUE);
            due("the highest bit of a long", x.figure(0), 1);
            x.row(0, 4, 8);
            x.set(0, 7, 256);
            due("256 as a boolean", x.figure(0), 1);
            due("cubes(0)", x.cubes(0), 128);
            x = rowed(2, 0, 40, 7, 8, 39);
            due("elements beyond the block", x.figure(0), 1);
            due("cubes(0)", x.cubes(0), 128);
        });
        edge("(missing ones: empty)", () -> {
            MouldThatComesOff x = rowed(4, 0, 40, 0, 31, 32, 39);
            x.solid(-1, true);
            due("of 40 for 64", x.figure(0), 4);
            due("cubes(0)", x.cubes(0), bits(0, 31, 32, 39));
            x.row(0, 0, 0);
            due("of none", x.figure(0), 0);
            due("cubes(0)", x.cubes(0), 0);
        });
        edge("how many are solid", () -> {
            MouldThatComesOff x = rowed(3, 0, 40);
            due("none", x.figure(0), 0);
            for (int i = 0; i < 40; i++) x.set(0, i, 1);
            due("all of 3", x.figure(0), 27);
            x.size(2);
            due("all of 2", x.figure(0), 8);
            x.size(4);
            due("all that a ROW can tell", x.figure(0), 40);
        });
        edge("BAD", () -> {
            for (int s : NO_SHELVES) refuses("SHELF " + s, BAD, x -> x.figure(s));
        });
        edge("OTHER", () -> refuses("a MOVE", OTHER, x -> x.figure(0)));
        edge("NOTHING", () -> refuses("NOTHING", NOTHING, x -> x.figure(2)));
    }

    private static void piece() {
        under("Promise 12: piece");
        edge("A PIECE of a set", () -> {
            MouldThatComesOff x = formed(4, 1);
            x.piece(0);
            x.piece(-1);
            x.piece(Long.MIN_VALUE);
            due("an empty one", x.setOf(0), 0);
            due("of all", x.setOf(1), -1);
            due("the last CUBE", x.setOf(2), Long.MIN_VALUE);
        });
        edge("(bits beyond the block don't count)", () -> {
            for (int n = 2; n <= 4; n++) {
                MouldThatComesOff x = sized(n);
                x.piece(-1);
                due("of all", x.setOf(0), all(n));
                if (n == 4) continue;
                x.piece(~all(n));
                due("beyond alone", x.setOf(1), 0);
                x.piece(~(all(n) >>> 1));
                due("the last", x.setOf(2), 1L << n * n * n - 1);
            }
        });
        edge("its number", () -> {
            MouldThatComesOff x = fresh();
            for (int p = 0; p < 8; p++) due("piece", x.piece(0), p);
            x.size(3);
            due("from 0 on anew", x.piece(0), 0);
        });
        edge("FULL", () -> {
            refuses("the ninth", FULL, () -> withPieces(rich(), 8), x -> x.piece(1));
            refuses("an empty one", FULL, () -> withPieces(rich(), 8), x -> x.piece(0));
            due("one that is OFF takes its room", withPieces(rich(), 8).status(3), 1);
            due("the eighth", withPieces(rich(), 7).piece(1), 7);
        });
    }

    private static void alter() {
        under("Promise 13: alter");
        edge("A PIECE (not OFF) becomes another set", () -> {
            MouldThatComesOff x = rich();
            x.alter(2, bits(0, 26));
            due("its set", x.setOf(2), bits(0, 26));
            x.alter(2, 0);
            due("empty", x.setOf(2), 0);
            x.alter(2, -1);
            due("bits beyond the block don't count", x.setOf(2), all(3));
            due("the others stay", x.setOf(0), 511);
            x.again();
            due("one that was OFF", x.alter(1, 1), 9);
            due("its set", x.setOf(1), 1);
        });
        edge("how many CUBES it had", () -> {
            MouldThatComesOff x = sized(4);
            x.piece(0);
            due("none", x.alter(0, -1), 0);
            due("all", x.alter(0, Long.MIN_VALUE), 64);
            due("the last", x.alter(0, 0), 1);
        });
        edge("BAD", () -> {
            for (int p : new int[] {-1, 3, 8, LEAST, MOST}) refuses("PIECE " + p, BAD, x -> x.alter(p, 1));
            due("of none", fresh().alter(0, 1), BAD);
            due("the eighth", withPieces(fresh(), 8).alter(7, 1), 0);
            due("behind the eighth", withPieces(fresh(), 8).alter(8, 1), BAD);
        });
        edge("STUCK: it is OFF", () -> refuses("PIECE 1", STUCK, x -> x.alter(1, 1)));
    }

    private static void ask() {
        under("Promise 14: ask");
        edge("SHOWS of a CUBE (what 0)", () -> {
            for (int n = 2; n <= 4; n++) {
                int last = n * n * n - 1;
                MouldThatComesOff x = sized(n);
                due("of the first", x.ask(0, 0, 0), 1);
                due("of the last", x.ask(0, last, 9), 1);
                due("of the first", x.ask(0, 0, 1), 0);
                due("of the last", x.ask(0, last, 1), 9);
                due("behind the last", x.ask(0, last + 1, 1), BAD);
                for (int v = 0; v <= 9; v++) x.ask(0, v % 8, v);
                for (int v = 2; v <= 9; v++) due("each value", x.ask(0, v % 8, 1), v);
            }
            due("of a solid one", rich().ask(0, 9, 5), 1);
        });
        edge("HEAVY (1; cube doesn't count)", () -> {
            MouldThatComesOff x = fresh();
            for (int cube : new int[] {-1, 27, LEAST, MOST}) due("cube " + cube, x.ask(1, cube, 64), 64);
            due("the least", x.ask(1, 0, 1), 64);
            due("status(4)", x.status(4), 1);
            due("WEAR stays", x.status(5), 100);
        });
        edge("WEAR (2) becomes v", () -> {
            MouldThatComesOff x = fresh();
            x.ask(2, 0, 999);
            due("status(5)", x.status(5), 999);
            x.ask(2, 0, 1);
            due("status(5)", x.status(5), 1);
            due("HEAVY stays", x.status(4), 64);
            due("cube doesn't count here either", x.ask(2, -1, 5), 1);
        });
        edge("what it was", () -> {
            due("SHOWS", rich().ask(0, 5, 5), 4);
            due("HEAVY", rich().ask(1, 5, 5), 33);
            due("WEAR", rich().ask(2, 5, 5), 44);
        });
        edge("BAD", () -> {
            for (int what : new int[] {-1, 3, LEAST, MOST}) refuses("what " + what, BAD, x -> x.ask(what, 0, 1));
            for (int cube : new int[] {-1, 27, 63, LEAST, MOST}) refuses("CUBE " + cube, BAD, x -> x.ask(0, cube, 1));
            for (int v : new int[] {-1, 10, LEAST, MOST}) refuses("SHOWS " + v, BAD, x -> x.ask(0, 5, v));
            for (int v : new int[] {0, 65, LEAST, MOST}) refuses("HEAVY " + v, BAD, x -> x.ask(1, 5, v));
            for (int v : new int[] {0, 1000, LEAST, MOST}) refuses("WEAR " + v, BAD, x -> x.ask(2, 5, v));
        });
    }

    private static void feed() {
        under("Promise 15: feed");
        edge("THE TAPE gets the n lowest bytes (1 .. 4) of v behind it, the highest of these first", () -> {
            // "wear 12" in pieces of each length, what is above the lowest bytes being of no account
            MouldThatComesOff x = fresh();
            x.feed(0x77656172, 4);
            x.feed(0x41414120, 1);
            x.feed(0x58583132, 2);
            due("read()", x.read(), 1);
            due("WEAR", x.status(5), 12);
            x.feed(0x58776561, 3);
            x.feed(0x72203938, 4);
            due("read()", x.read(), 1);
            due("WEAR", x.status(5), 98);
            x.feed(0xFF776561, 4);
            due("the highest byte is fed, too", x.read(), -20);
        });
        edge("its size", () -> {
            MouldThatComesOff x = fresh();
            int[] want = {1, 3, 6, 10};
            for (int n = 1; n <= 4; n++) due("feed", x.feed(0, n), want[n - 1]);
            due("status(6)", x.status(6), 10);
            due("to the last byte", TermEdges.filled(249).feed(0, 1), 250);
            due("four to the last byte", TermEdges.filled(246).feed(0, 4), 250);
        });
        edge("BAD", () -> {
            for (int n : new int[] {0, 5, -1, LEAST, MOST}) {
                refuses("n " + n, BAD, x -> x.feed(0x33333333, n));
                refuses("n " + n + ", THE TAPE being full", BAD, () -> TermEdges.filled(250), x -> x.feed(0, n));
            }
        });
        edge("FULL", () -> {
            for (int n = 1; n <= 4; n++) {
                int bytes = n;
                for (int room = 0; room < n; room++) {
                    int left = room;
                    refuses(n + " where room is for " + room, FULL, () -> TermEdges.filled(250 - left), x -> x.feed(0x37373737, bytes));
                }
                due(n + " where room is for them", TermEdges.filled(250 - n).feed(0, n), 250);
            }
        });
    }

    private static void wipeAndRead() {
        under("Promise 16: wipe");
        edge("THE TAPE is empty", () -> {
            MouldThatComesOff x = rich();
            x.wipe();
            due("status(6)", x.status(6), 0);
            due("what was is gone", x.read(), -20);
            x = TermEdges.filled(250);
            x.wipe();
            due("there is room again", x.feed(0, 4), 4);
        });
        edge("its size ahead", () -> {
            due("of an empty one", fresh().wipe(), 0);
            due("of six", rich().wipe(), 6);
            due("of a full one", TermEdges.filled(250).wipe(), 250);
        });
        under("Promise 17: read");
        edge("THE TAPE is a FIGURE: how many STATEMENTS", () -> {
            due("one", readText(fresh(), "piece"), 1);
            due("two", readText(fresh(), "piece;piece"), 2);
            due("as many as there is room for", readText(fresh(), "size2;".repeat(40) + "wear1"), 41);
            MouldThatComesOff x = fresh();
            readText(x, "size 2;box 1 to 1;piece;fill 2 to 2;shows 1 5;heavy 2;wear 3");
            due("CUBES", x.cubes(0), 2);
            due("PIECES", x.setOf(0), 4);
            due("HEAVY", x.status(4), 2);
            due("WEAR", x.status(5), 3);
            due("SHOWS", x.ask(0, 1, 1), 5);
        });
        edge("-20 less the FAULT", () -> {
            faulty("", 0);
            faulty("?", 0);
            faulty(" ?", 1);
            faulty("wear 5;?", 7);
            faulty(" ".repeat(249) + "?", 249);
            faulty(" ".repeat(250), 250);
        });
        edge("(that is refused, too: BAD)", () -> {
            MouldThatComesOff x = fresh();
            readText(x, "?");
            due("status(12)", x.status(12), 1);
            x.read();
            due("status(12)", x.status(12), 2);
            readText(x, "piece");
            due("status(12)", x.status(12), 2);
            for (int what = 13; what <= 16; what++) due("status(" + what + ")", x.status(what), 0);
        });
        edge("THE TAPE is empty then, either way", () -> {
            MouldThatComesOff x = fresh();
            readText(x, "wear 5");
            due("read", x.status(6), 0);
            readText(x, "wear 5;?");
            due("refused", x.status(6), 0);
            due("of nothing", x.read(), -20);
            due("the next is read by itself", readText(x, "wear 6"), 1);
            readText(x, " ".repeat(250));
            due("there is room again", x.feed(0, 4), 4);
        });
    }

    private static void cubes() {
        under("Promise 18: cubes");
        edge("THE FIGURE (what 0)", () -> {
            due("none", fresh().cubes(0), 0);
            due("some", rich().cubes(0), 253440);
            due("all", formed(4, -1).cubes(0), -1);
        });
        edge("empty CUBES (1)", () -> {
            for (int n = 2; n <= 4; n++) {
                due("all", sized(n).cubes(1), all(n));
                due("none", formed(n, -1).cubes(1), 0);
                due("but the last", formed(n, ~(all(n) >>> 1)).cubes(1), all(n) >>> 1);
            }
        });
        edge("NEVER (2)", () -> {
            due("none solid", fresh().cubes(2), 0);
            due("one", formed(3, bits(4, 10, 12, 14, 16, 22)).cubes(2), bits(13));
            due("of 4, far from what holds it", formed(4, bits(5, 17, 20, 23, 29, 53)).cubes(2), bits(21));
        });
        edge("those in some PIECE that isn't OFF (3)", () -> {
            due("no PIECES", fresh().cubes(3), 0);
            due("two of three", rich().cubes(3), 511 | bits(13));
            MouldThatComesOff x = rich();
            x.alter(0, 511L << 18);
            due("one that is OFF has them, too", x.cubes(3), 511L << 18 | bits(13));
            x.alter(0, bits(9, 13));
            due("solid ones, and those of two PIECES", x.cubes(3), bits(9, 13));
            x.again();
            due("all are on", x.cubes(3), bits(9, 13) | 511L << 18);
        });
        edge("0 else", () -> {
            MouldThatComesOff x = rich();
            for (int what : new int[] {-1, 4, LEAST, MOST}) due("what " + what, x.cubes(what), 0);
            due("it is not refused", x.status(12), 0);
        });
    }

    private static void setOf() {
        under("Promise 19: setOf");
        edge("The set of a PIECE", () -> {
            due("the first", rich().setOf(0), 511);
            due("one that is OFF", rich().setOf(1), 511L << 18);
            due("the last", rich().setOf(2), bits(13));
        });
        edge("0: none such", () -> {
            MouldThatComesOff x = rich();
            for (int p : new int[] {-1, 3, 8, LEAST, MOST}) due("PIECE " + p, x.setOf(p), 0);
            due("it is not refused", x.status(12), 0);
            x.size(3);
            due("one that was", x.setOf(0), 0);
            x = withPieces(fresh(), 8);
            x.alter(7, 1);
            due("the eighth", x.setOf(7), 1);
            due("behind it", x.setOf(8), 0);
        });
    }

    private static void wholeAndParts() {
        under("Promise 20: whole");
        edge("Whether a set is WHOLE: 1, 0", () -> {
            due("all", rich().whole(all(3)), 1);
            due("two", rich().whole(bits(0, 1)), 1);
            due("apart", rich().whole(bits(0, 26)), 0);
            due("none", rich().whole(0), 1);
            due("solid or not", rich().whole(bits(9, 13)), 0);
        });
        edge("(bits beyond the block don't count)", () -> {
            due("one and others beyond", fresh().whole(bits(26) | -1L << 28), 1);
            due("beyond alone, apart", fresh().whole(bits(30, 50)), 1);
            due("two that only those beyond would join", sized(2).whole(bits(4, 7) | -1L << 8), 0);
            due("none are beyond 4", sized(4).whole(Long.MIN_VALUE | 1), 0);
        });
        under("Promise 21: parts");
        edge("How many WHOLE parts THE FIGURE is of", () -> {
            due("none", fresh().parts(), 0);
            due("one", formed(3, bits(26)).parts(), 1);
            due("all", formed(4, -1).parts(), 1);
            due("over the edge there is no way", formed(3, bits(2, 3)).parts(), 2);
            due("by corners neither", formed(2, bits(0, 7)).parts(), 2);
            long even = 0;
            for (int c = 0; c < 64; c++) if ((c % 4 + c / 4 % 4 + c / 16) % 2 == 0) even |= 1L << c;
            due("as many as can be", formed(4, even).parts(), 32);
            due("the others", formed(4, ~even).parts(), 32);
        });
    }

    private static void free() {
        under("Promise 22: free");
        edge("FREE of a CUBE", () -> {
            due("all WAYS", fresh().free(13), 63);
            due("by none", formed(3, ~bits(13)).free(13), 0);
            due("by each but the one", formed(4, bits(48)).free(0), 63 - 16);
            MouldThatComesOff x = fresh();
            x.piece(all(3));
            due("PIECES don't count", x.free(13), 63);
        });
        edge("BAD", () -> {
            for (int c : new int[] {-1, 27, 63, 64, LEAST, MOST}) refuses("CUBE " + c, BAD, x -> x.free(c));
            due("behind the last of 2", sized(2).free(8), BAD);
            due("behind the last of 4", sized(4).free(64), BAD);
            due("the last of 4", sized(4).free(63), 63);
        });
        edge("STUCK: it is solid", () -> {
            refuses("CUBE 9", STUCK, x -> x.free(9));
            due("the last of 4", formed(4, -1).free(63), STUCK);
        });
    }
}
