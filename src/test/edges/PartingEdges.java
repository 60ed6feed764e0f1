/** Promises 23 to 33: moves, partings and what WAYS serve. */
final class PartingEdges extends Edges {
    /** Nine lone CUBES: eight corners' places of a block of 3 and the middle of a side. */
    private static final long NINE = bits(0, 2, 4, 6, 8, 18, 20, 24, 26);

    static void run() {
        comes();
        wrong();
        loose();
        bars();
        order();
        ring();
        serves();
        fewest();
        parted();
        hidden();
        make();
    }

    private static MouldThatComesOff moving(int n, long figure, int kind, int a, int b) {
        MouldThatComesOff x = formed(n, figure);
        x.move(0, kind, a, b);
        return x;
    }

    private static void comes() {
        under("Promise 23: comes");
        edge("Whether a set COMES by the MOVE in SHELF s past THE FIGURE alone: 1, 0", () -> {
            due("it does", moving(3, bits(0), 1, 0, 0).comes(0, bits(1, 2)), 1);
            due("it doesn't", moving(3, bits(2), 1, 0, 0).comes(0, bits(1)), 0);
            MouldThatComesOff x = moving(3, 0, 1, 0, 0);
            x.piece(bits(1, 2));
            due("PIECES don't count", x.comes(0, bits(0)), 1);
            due("CORE", moving(3, 0, 3, 0, 0).comes(0, bits(0, 3)), 0);
            due("HALF", moving(3, 0, 4, 0, 0).comes(0, bits(0)), 0);
            due("LIFT", moving(3, bits(3), 2, 2, 0).comes(0, bits(0)), 0);
            due("FAR", moving(3, bits(6), 5, 2, 0).comes(0, bits(0)), 0);
        });
        edge("(bits beyond the block don't count", () -> {
            due("they aren't barred", moving(2, 128, 1, 1, 0).comes(0, -1L << 8), 1);
            due("nor make a CORE less", moving(3, 0, 3, 0, 0).comes(0, bits(0) | -1L << 27), 1);
            due("nor a HALF of it", moving(2, 0, 4, 0, 0).comes(0, bits(0) | -1L << 8), 0);
            due("they don't come in by a step", moving(3, bits(26), 1, 1, 0).comes(0, -1L << 27), 1);
            due("nor down", moving(3, all(3), 1, 5, 0).comes(0, -1L << 27), 1);
        });
        edge("an empty set does)", () -> {
            for (int kind = 1; kind <= 5; kind++) due("KIND " + kind, moving(4, -1, kind, 3, 2).comes(0, 0), 1);
            due("what is beyond alone is empty", moving(2, 255, 4, 0, 0).comes(0, -1L << 8), 1);
        });
        edge("BAD", () -> {
            for (int s : NO_SHELVES) refuses("SHELF " + s, BAD, x -> x.comes(s, 1));
            refuses("an empty set, too", BAD, x -> x.comes(8, 0));
        });
        edge("OTHER", () -> {
            refuses("a ROW", OTHER, x -> x.comes(1, 1));
            refuses("an empty set, too", OTHER, x -> x.comes(1, 0));
        });
        edge("NOTHING", () -> {
            refuses("NOTHING", NOTHING, x -> x.comes(2, 1));
            refuses("an empty set, too", NOTHING, x -> x.comes(2, 0));
        });
    }

    private static void wrong() {
        under("Promise 24: wrong");
        edge("By what THE PARTING is WRONG (by true)", () -> {
            MouldThatComesOff x = formed(2, 1);
            due("5", x.wrong(true), 5);
            x.piece(254);
            x.ask(1, 0, 6);
            due("4", x.wrong(true), 4);
            x.piece(0);
            due("3", x.wrong(true), 3);
            x.alter(1, 2);
            due("2", x.wrong(true), 2);
            x.alter(1, 1);
            due("1", x.wrong(true), 1);
        });
        edge("at which PIECE", () -> {
            MouldThatComesOff x = withPieces(formed(2, 1), 8);
            for (int p = 0; p < 7; p++) x.alter(p, 2L << p);
            due("the last is empty", x.wrong(false), 7);
            x.alter(7, 1);
            due("the last has a solid one", x.wrong(false), 7);
            x.alter(7, 2);
            due("the greater of two", x.wrong(false), 7);
            x.alter(0, 1);
            due("the first has a solid one", x.wrong(false), 0);
        });
        edge("or CUBE for 5 (false)", () -> {
            due("the first", fresh().wrong(false), 0);
            due("the first that is empty", formed(3, 511).wrong(false), 9);
            due("the last", formed(4, Long.MAX_VALUE).wrong(false), 63);
            MouldThatComesOff x = formed(3, 511);
            x.piece(bits(9, 10));
            due("the first that no PIECE has", x.wrong(false), 11);
        });
        edge("0, NONE: it isn't", () -> {
            MouldThatComesOff x = fresh();
            x.piece(-1);
            due("wrong(true)", x.wrong(true), 0);
            due("wrong(false)", x.wrong(false), NONE);
            due("no empty CUBE, no PIECE", formed(3, -1).wrong(true), 0);
            due("no empty CUBE, no PIECE", formed(3, -1).wrong(false), NONE);
            for (int what = 12; what <= 16; what++) due("nothing is refused", x.status(what), 0);
        });
    }

    private static void loose() {
        under("Promise 25: loose");
        edge("The first SHELF by which a PIECE is LOOSE", () -> {
            MouldThatComesOff x = lids();
            x.move(7, 1, 5, 0);
            due("the last SHELF", x.loose(0), 7);
            x.move(3, 1, 4, 0);
            due("one that doesn't do is passed", x.loose(0), 7);
            x.move(5, 1, 0, 0);
            due("the first that does", x.loose(0), 5);
            x.move(0, 2, 5, 0);
            due("the first SHELF", x.loose(0), 0);
            x.row(0, 0, 1);
            due("a ROW is passed", x.loose(0), 5);
        });
        edge("NONE: by none", () -> {
            MouldThatComesOff x = lids();
            due("no MOVES", x.loose(0), NONE);
            x.move(0, 1, 4, 0);
            due("barred by THE FIGURE", x.loose(0), NONE);
            due("barred by a PIECE", x.loose(2), NONE);
            x.alter(1, 0);
            due("that is empty now", x.loose(2), 0);
            x.row(0, 0, 1);
            due("an empty one without MOVES", x.loose(1), NONE);
            due("nothing is refused", x.status(15), 0);
        });
        edge("BAD", () -> {
            for (int p : new int[] {-1, 3, 8, LEAST, MOST}) refuses("PIECE " + p, BAD, x -> x.loose(p));
            due("of none", fresh().loose(0), BAD);
        });
        edge("STUCK: it is OFF", () -> refuses("PIECE 1", STUCK, x -> x.loose(1)));
    }

    private static void bars() {
        under("Promise 26: bars");
        edge("PIECES (bits; not OFF, others than it) past which one doesn't COME by the MOVE in SHELF s, each alone", () -> {
            MouldThatComesOff x = moving(4, 0, 1, 0, 0);
            for (int c : new int[] {0, 1, 2, 3, 4, 19}) x.piece(bits(c));
            due("three ahead", x.bars(0, 0), 14);
            due("none ahead", x.bars(0, 3), 0);
            due("itself not", x.bars(0, 2), 8);
            x.alter(1, bits(0));
            due("one in the same place", x.bars(0, 0), 12);
            x.alter(0, bits(3));
            due("the first PIECE, too", x.bars(0, 1), 13);
            x.alter(0, bits(0));
            x.step();
            due("OFF: 3", x.status(3), 1);
            due("not one that is OFF", x.bars(0, 0), 4);
            x = withPieces(moving(3, 0, 1, 0, 0), 8);
            x.alter(0, bits(0));
            for (int p = 1; p < 8; p++) x.alter(p, bits(2));
            due("all the others", x.bars(0, 0), 254);
            x.move(0, 3, 0, 0);
            x.alter(0, bits(0, 3));
            x.alter(7, bits(26));
            due("what is no CORE COMES past none", x.bars(0, 0), 254);
            x.alter(0, 0);
            due("an empty one past all", x.bars(0, 0), 0);
            x.move(0, 4, 0, 0);
            x.alter(0, bits(3));
            due("what is no HALF COMES past none", x.bars(0, 0), 254);
        });
        edge("THE FIGURE not being there", () -> {
            MouldThatComesOff x = moving(3, bits(1, 2), 1, 0, 0);
            x.piece(bits(0));
            x.piece(bits(5));
            due("barred by THE FIGURE alone", x.bars(0, 0), 0);
            due("so it isn't LOOSE", x.loose(0), NONE);
        });
        edge("BAD", () -> {
            for (int s : NO_SHELVES) refuses("SHELF " + s, BAD, x -> x.bars(s, 0));
            for (int p : new int[] {-1, 3, 8, LEAST, MOST}) {
                refuses("PIECE " + p, BAD, x -> x.bars(0, p));
                refuses("PIECE " + p + " by a ROW", BAD, x -> x.bars(1, p));
                refuses("PIECE " + p + " by NOTHING", BAD, x -> x.bars(2, p));
            }
            refuses("no SHELF, and it is OFF", BAD, x -> x.bars(8, 1));
        });
        edge("OTHER", () -> {
            refuses("a ROW", OTHER, x -> x.bars(1, 0));
            refuses("a ROW, and it is OFF", OTHER, x -> x.bars(1, 1));
        });
        edge("NOTHING", () -> {
            refuses("NOTHING", NOTHING, x -> x.bars(2, 0));
            refuses("NOTHING, and it is OFF", NOTHING, x -> x.bars(2, 1));
        });
        edge("STUCK: it is OFF", () -> refuses("PIECE 1", STUCK, x -> x.bars(0, 1)));
    }

    private static void order() {
        under("Promise 27: order");
        edge("THE ORDER: the i-th PIECE that comes off (what 0)", () -> {
            MouldThatComesOff x = moving(3, 0, 1, 0, 0);
            for (int c : new int[] {0, 1, 2}) x.piece(bits(c));
            int[] want = {2, 1, 0};
            for (int i = 0; i < 3; i++) due("order(" + i + ", 0)", x.order(i, 0), want[i]);
            due("none is OFF for it", x.status(3), 0);
            x = withPieces(moving(3, 0, 1, 0, 0), 8);
            for (int i = 0; i < 8; i++) due("eight", x.order(i, 0), i);
            x.step();
            for (int i = 0; i < 7; i++) due("those that are left", x.order(i, 0), i + 1);
        });
        edge("by which SHELF (1)", () -> {
            MouldThatComesOff x = lids();
            x.move(7, 1, 4, 0);
            x.move(0, 1, 5, 0);
            int[] want = {0, 7, 0};
            for (int i = 0; i < 3; i++) due("order(" + i + ", 1)", x.order(i, 1), want[i]);
        });
        edge("NONE: no such place", () -> {
            MouldThatComesOff x = lids();
            x.move(0, 1, 4, 0);
            for (int what = 0; what <= 1; what++) {
                for (int i : new int[] {-1, 2, 8, LEAST, MOST}) due("place " + i, x.order(i, what), NONE);
                due("of none", fresh().order(0, what), NONE);
            }
            due("nothing is refused", x.status(12), 0);
            due("behind the eighth", withPieces(moving(3, 0, 1, 0, 0), 8).order(8, 0), NONE);
        });
        edge("BAD", () -> {
            for (int what : new int[] {-1, 2, LEAST, MOST}) {
                refuses("what " + what, BAD, x -> x.order(0, what));
                refuses("what " + what + ", and there is no such place", BAD, x -> x.order(-1, what));
            }
        });
    }

    private static void ring() {
        under("Promise 28: ring");
        edge("THE RING (bits)", () -> {
            due("no PIECES", fresh().ring(), 0);
            due("no MOVES", lids().ring(), 7);
            MouldThatComesOff x = lids();
            x.move(0, 1, 4, 0);
            due("the lid below", x.ring(), 1);
            x.move(1, 1, 5, 0);
            due("none", x.ring(), 0);
            due("none is OFF for it", x.status(3), 0);
            x = rich();
            x.row(0, 0, 0);
            x.row(4, 0, 0);
            x.row(5, 0, 0);
            due("one that is OFF is none of it", x.ring(), 5);
            due("all eight", withPieces(fresh(), 8).ring(), 255);
            x.step();
            due("nothing but step() is refused", x.status(15), 1);
        });
    }

    private static void serves() {
        under("Promise 29: serves");
        edge("Whether a set of WAYS (0 to 63) SERVES: 1, 0", () -> {
            due("none", fresh().serves(0), 0);
            due("all", fresh().serves(63), 1);
            for (int way = 0; way < 6; way++) due("each alone", fresh().serves(1 << way), 1);
            due("none, of no empty CUBES", formed(3, -1).serves(0), 1);
            due("all, of a NEVER one", formed(3, ~bits(13)).serves(63), 0);
            // a hole from each side: five WAYS are too few
            long holes = bits(4, 10, 12, 14, 16, 22);
            for (int way = 0; way < 6; way++) due("without " + way, formed(3, ~holes).serves(63 & ~(1 << way)), 0);
            due("all six", formed(3, ~holes).serves(63), 1);
        });
        edge("BAD", () -> {
            for (int ways : NO_WAY_SETS) refuses("WAYS " + ways, BAD, x -> x.serves(ways));
        });
    }

    private static void fewest() {
        under("Promise 30: fewest");
        edge("FEWEST (bits)", () -> {
            due("none", formed(3, -1).fewest(), 0);
            due("one", fresh().fewest(), 1);
            due("six", formed(3, ~bits(4, 10, 12, 14, 16, 22)).fewest(), 63);
            for (int way = 0; way < 6; way++) {
                int[] at = {14, 12, 16, 10, 22, 4};
                due("a hole by " + way + " alone", formed(3, ~bits(at[way])).fewest(), 1 << way);
            }
        });
        edge("STUCK: there are NEVER ones", () -> {
            refuses("a hollow", STUCK, () -> formed(3, ~bits(13)), MouldThatComesOff::fewest);
            refuses("a hollow of 4 and holes", STUCK, () -> formed(4, ~bits(21, 0, 63)), MouldThatComesOff::fewest);
        });
    }

    private static void parted() {
        under("Promise 31: parted");
        edge("PARTED by a set of WAYS: how many PARTS (what 0)", () -> {
            due("one", fresh().parted(1, 0), 1);
            due("none", formed(3, -1).parted(0, 0), 0);
            due("none by all", formed(3, -1).parted(63, 0), 0);
            due("more than PIECES could be", formed(3, ~NINE).parted(63, 0), 9);
            due("each by its own WAY", formed(3, ~bits(4, 10, 12, 14, 16, 22)).parted(63, 0), 6);
            MouldThatComesOff x = lids();
            x.parted(48, 0);
            due("PIECES stay", x.status(2), 3);
        });
        edge("SEAM (1)", () -> {
            due("none", fresh().parted(63, 1), 0);
            due("none empty", formed(3, -1).parted(63, 1), 0);
            due("apart", formed(3, ~NINE).parted(63, 1), 0);
            MouldThatComesOff x = formed(2, ~bits(0, 1));
            due("two of one WAY", x.parted(8, 1), 0);
            due("by x more and y less: x more takes 1, and 0, too", x.parted(9, 1), 0);
            x = formed(3, bits(1));
            due("0 by x less, 2 and all others by x more", x.parted(3, 1), 4);
            for (int c = 0; c < 27; c++) x.ask(0, c, 9);
            due("the most of it", x.parted(3, 1), 36);
        });
        edge("BAD", () -> {
            for (int ways : NO_WAY_SETS) refuses("WAYS " + ways, BAD, x -> x.parted(ways, 0));
            for (int what : new int[] {-1, 2, LEAST, MOST}) {
                refuses("what " + what, BAD, x -> x.parted(48, what));
                refuses("what " + what + ", and it doesn't SERVE", BAD, x -> x.parted(0, what));
            }
        });
        edge("STUCK: it doesn't SERVE", () -> {
            refuses("no WAYS", STUCK, x -> x.parted(0, 0));
            refuses("one WAY of two", STUCK, x -> x.parted(16, 1));
            refuses("a NEVER one", STUCK, () -> formed(3, ~bits(13)), x -> x.parted(63, 0));
        });
    }

    private static void hidden() {
        under("Promise 32: hidden");
        edge("HIDDEN (bits)", () -> {
            due("none", formed(3, -1).hidden(), 0);
            due("one", fresh().hidden(), 1);
            due("six", formed(3, ~bits(4, 10, 12, 14, 16, 22)).hidden(), 63);
            MouldThatComesOff x = formed(3, bits(13));
            for (int c = 0; c < 27; c++) x.ask(0, c, 9);
            for (int c : new int[] {4, 1, 3, 5, 7}) x.ask(0, c, 0);
            due("the SEAM around 4 doesn't show", x.hidden(), 48);
            due("fewest() is another", x.fewest(), 3);
        });
        edge("STUCK: there are NEVER ones", () -> {
            refuses("a hollow", STUCK, () -> formed(3, ~bits(13)), MouldThatComesOff::hidden);
            refuses("a hollow of 4 and holes", STUCK, () -> formed(4, ~bits(42, 0, 63)), MouldThatComesOff::hidden);
        });
    }

    private static void make() {
        under("Promise 33: make");
        edge("PIECES become the PARTS by a set of WAYS, by their least CUBES", () -> {
            MouldThatComesOff x = formed(2, ~bits(0, 7));
            x.make(3);
            due("by x less, but of the least CUBE", x.setOf(0), 1);
            due("by x more", x.setOf(1), 128);
            x = formed(3, bits(13));
            x.make(3);
            due("the first", x.setOf(0), all(3) & ~bits(12, 13));
            due("the second", x.setOf(1), bits(12));
            due("none is WRONG", x.wrong(true), 0);
            x = formed(4, Long.MAX_VALUE);
            x.make(1);
            due("the last CUBE alone", x.setOf(0), Long.MIN_VALUE);
            x = formed(3, ~(NINE & ~bits(13, 26)));
            x.make(63);
            int[] least = {0, 2, 4, 6, 8, 18, 20, 24};
            for (int p = 0; p < 8; p++) due("PIECE " + p, x.setOf(p), bits(least[p]));
        });
        edge("(all others are gone)", () -> {
            MouldThatComesOff x = rich();
            x.make(48);
            due("PIECES", x.status(2), 2);
            due("none is OFF", x.status(3), 0);
            due("no third", x.setOf(2), 0);
            x = withPieces(formed(3, -1), 8);
            due("of none", x.make(0), 0);
            due("PIECES", x.status(2), 0);
            due("the next is the first", x.piece(1), 0);
        });
        edge("how many", () -> {
            due("none", formed(3, -1).make(63), 0);
            due("one", fresh().make(1), 1);
            due("eight", formed(3, ~(NINE & ~bits(26))).make(63), 8);
        });
        edge("BAD", () -> {
            for (int ways : NO_WAY_SETS) refuses("WAYS " + ways, BAD, x -> x.make(ways));
        });
        edge("STUCK: it doesn't SERVE", () -> {
            refuses("no WAYS", STUCK, x -> x.make(0));
            refuses("one WAY of two", STUCK, x -> x.make(16));
            refuses("nine, by too few WAYS", STUCK, () -> formed(3, ~NINE), x -> x.make(1));
            refuses("a NEVER one", STUCK, () -> formed(3, ~bits(13)), x -> x.make(63));
        });
        edge("FULL: more than 8", () -> {
            refuses("nine", FULL, () -> withPieces(formed(3, ~NINE), 3), x -> x.make(63));
            due("eight", formed(3, ~(NINE & ~bits(0))).make(63), 8);
            long even = 0;
            for (int c = 0; c < 64; c++) if ((c % 4 + c / 4 % 4 + c / 16) % 2 == 0 && c < 16) even |= 1L << c;
            long eight = even;
            due("eight of 4", formed(4, ~eight).make(32), 8);
            refuses("nine of 4", FULL, () -> formed(4, ~(eight | bits(63))), x -> x.make(63));
        });
    }
}
