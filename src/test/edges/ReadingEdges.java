/** The words under "Terms" that tell how a FIGURE is read from a text. */
final class ReadingEdges extends Edges {
    private static final String EIGHT = "piece;piece;piece;piece;piece;piece;piece;piece";

    static void run() {
        under("Terms");
        tape();
        tokens();
        statements();
        numbers();
        faults();
    }

    private static void reads(String text, int statements) {
        due("read() of '" + text + "'", readText(fresh(), text), statements);
    }

    private static MouldThatComesOff readTo(MouldThatComesOff x, String text) {
        int answer = readText(x, text);
        if (answer < 1) due("the test's own text '" + text + "'", answer, 1);
        return x;
    }

    private static void tape() {
        edge("A FIGURE is read from THE TAPE (bytes, 250 at most)", () -> {
            String blanks = " ".repeat(244);
            MouldThatComesOff x = fresh();
            feedText(x, blanks + "wear 7");
            due("size", x.status(6), 250);
            due("one byte more", x.feed(32, 1), FULL);
            due("all 250 are read", x.read(), 1);
            due("WEAR", x.status(5), 7);
            faulty("wear 7" + blanks.substring(1) + "x", 249);
            faulty("wear" + blanks + "  ", 250);
            due("bytes beyond 127 are themselves", readText(fresh(), "wear" + (char) (32 + 128) + "7"), -24);
        });
    }

    private static void tokens() {
        edge("TOKENS, each as long as can be", () -> {
            faulty("sizes 3", 0);
            faulty("size 34", 5);
            faulty("piecepiece", 0);
            faulty("box 0 to11 1", 11);
            faulty("tobox 1", 0);
            reads("wear 12;heavy 12", 2);
            due("a NUMBER is all of its digits", readTo(fresh(), "wear 123").status(5), 123);
            reads("box0to11", 1);
        });
        edge("WORDS (a .. z)", () -> {
            for (char c : new char[] {'`', '{', 'A', 'Z', '@', '[', '_', (char) 225}) {
                faulty("piece" + c, 5);
                faulty(c + "piece", 0);
            }
            faulty("piecea", 0);
            faulty("piecez", 0);
            faulty("Piece", 0);
            reads("size 2;wear 1", 2);
        });
        edge("NUMBERS (digits)", () -> {
            for (char c : new char[] {'/', ':', '.', '-', '+', ','}) {
                faulty("wear 9" + c, 6);
                faulty("wear " + c + "9", 5);
            }
            due("0 and 9", readTo(fresh(), "wear 909").status(5), 909);
            faulty("wear 9a", 6);
            faulty("9", 0);
        });
        edge("the SIGN ;", () -> {
            reads("piece;piece", 2);
            for (char c : new char[] {':', '<', ',', '.', '\n'}) faulty("piece" + c + "piece", 5);
            faulty("piece;;piece", 6);
        });
        edge("blanks (32) may stand anywhere between", () -> {
            reads("size2;box0to7;cut1to1;shows7 9;heavy2;wear3", 6);
            reads("   size   2  ;   box   0   to   7   ", 2);
            for (int c : new int[] {0, 9, 10, 13, 31, 33, 160}) {
                faulty("size" + (char) c + "2", 4);
                faulty((char) c + "piece", 0);
                faulty("piece" + (char) c, 5);
            }
            faulty("si ze 2", 0);
            faulty("wear 1 2", 7);
            faulty("shows 12", 8);
            reads("shows 1 2", 1);
        });
    }

    private static void statements() {
        edge("STATEMENTS, one or more, with ; between", () -> {
            faulty("", 0);
            faulty(" ", 1);
            reads("piece", 1);
            reads("size2;".repeat(40) + "size2", 41);
            faulty(";", 0);
            faulty(";piece", 0);
            faulty("piece;", 6);
            faulty("piece;  ", 8);
            faulty("piece piece", 6);
            faulty("wear 5 wear 5", 7);
        });
        edge("size N (all CUBES empty then, no PIECES, SHOWS 1)", () -> {
            MouldThatComesOff x = rich();
            x.wipe();
            due("read()", readText(x, "size 3"), 1);
            due("CUBES", x.cubes(0), 0);
            due("PIECES", x.status(2), 0);
            due("none OFF", x.status(3), 0);
            for (int c = 0; c < 27; c++) due("SHOWS", x.ask(0, c, 1), 1);
            due("HEAVY stays", x.status(4), 33);
            due("WEAR stays", x.status(5), 44);
            due("SHELVES stay", x.status(7), 5);
            for (int n = 2; n <= 4; n++) due("SIZE", readTo(x, "size " + n).status(0), n);
            due("what stood ahead of it is gone", readTo(x, "box 0 to 1;piece;fill 2 to 2;shows 1 5;size 2;box 3 to 3").cubes(0), 8);
            due("PIECES, too", x.status(2), 0);
            due("and SHOWS", x.ask(0, 1, 1), 1);
        });
        edge("box A to B, cut A to B (CUBES whose x, y, z are each between those of A and B: solid, empty)", () -> {
            due("one", readTo(fresh(), "box 13 to 13").cubes(0), bits(13));
            due("all", readTo(fresh(), "box 0 to 26").cubes(0), all(3));
            due("all, from the last on", readTo(fresh(), "box 26 to 0").cubes(0), all(3));
            due("corners that cross", readTo(fresh(), "box 2 to 24").cubes(0), all(3));
            due("along x", readTo(fresh(), "box 5 to 4").cubes(0), bits(4, 5));
            due("along y", readTo(fresh(), "box 8 to 2").cubes(0), bits(2, 5, 8));
            due("along z", readTo(fresh(), "box 6 to 24").cubes(0), bits(6, 15, 24));
            due("not the next row", readTo(fresh(), "box 1 to 4").cubes(0), bits(1, 4));
            due("all of 4", readTo(fresh(), "size 4;box 0 to 63").cubes(0), -1);
            due("the last of 4", readTo(fresh(), "size 4;box 63 to 63").cubes(0), Long.MIN_VALUE);
            due("solid ones stay so", readTo(fresh(), "box 0 to 1;box 1 to 2").cubes(0), 7);
            due("cut", readTo(formed(3, -1), "cut 13 to 13").cubes(0), all(3) & ~bits(13));
            due("cut all", readTo(formed(3, -1), "cut 26 to 0").cubes(0), 0);
            due("cut empty ones", readTo(formed(3, 1), "cut 1 to 26").cubes(0), 1);
        });
        edge("piece (a PIECE more, empty)", () -> {
            MouldThatComesOff x = readTo(rich(), "; piece");
            due("PIECES", x.status(2), 4);
            due("its set", x.setOf(3), 0);
            due("the others stay", x.setOf(0), 511);
            due("it is on", x.loose(3), 0);
            due("the eighth", readTo(fresh(), EIGHT).status(2), 8);
        });
        edge("fill A to B (the last PIECE has these CUBES, too)", () -> {
            MouldThatComesOff x = readTo(fresh(), "piece;fill 0 to 0;piece;fill 1 to 1;fill 1 to 2");
            due("the first", x.setOf(0), 1);
            due("the last", x.setOf(1), 6);
            readTo(x, "fill 26 to 26");
            due("of what there is", x.setOf(1), 6 | bits(26));
            due("solid ones, too", readTo(formedWith(-1, 0), "fill 0 to 26").setOf(0), all(3));
        });
        edge("shows A N", () -> {
            MouldThatComesOff x = readTo(fresh(), "shows 0 0;shows 26 9;shows 13 5;shows 13 4");
            due("the first", x.ask(0, 0, 1), 0);
            due("the last", x.ask(0, 26, 1), 9);
            due("the later counts", x.ask(0, 13, 1), 4);
            due("another", x.ask(0, 1, 1), 1);
        });
        edge("heavy N", () -> {
            due("the least", readTo(fresh(), "heavy 1").status(4), 1);
            due("the most", readTo(fresh(), "heavy 1;heavy 64").status(4), 64);
        });
        edge("wear N", () -> {
            due("the least", readTo(fresh(), "wear 1").status(5), 1);
            due("the most", readTo(fresh(), "wear 999").status(5), 999);
        });
        edge("All comes to what there is, or nothing", () -> {
            MouldThatComesOff x = formedWith(bits(0), bits(1));
            readTo(x, "box 26 to 26;piece;wear 5");
            due("CUBES", x.cubes(0), bits(0, 26));
            due("PIECES", x.status(2), 2);
            due("WEAR", x.status(5), 5);
            // each kind of statement, and a fault behind them all
            String every = "box 5 to 6;cut 0 to 0;fill 7 to 7;piece;shows 1 5;heavy 2;wear 2;";
            int length = every.length();
            nothingOf(every, length);
            nothingOf(every + "size 4;box 60 to 63;piece;shows 63 2;", length + 37);
            nothingOf("size 2;piece;fill 0 to 1;x", 25);
        });
    }

    private static MouldThatComesOff formedWith(long figure, long piece) {
        MouldThatComesOff x = formed(3, figure);
        x.piece(piece);
        return x;
    }

    /** A faulty text leaves all as it was but THE TAPE, and is one BAD more. */
    private static void nothingOf(String text, int place) {
        Maker maker = () -> {
            MouldThatComesOff x = rich();
            x.wipe();
            return x;
        };
        MouldThatComesOff x = maker.make();
        due("read() of '" + text + "'", readText(x, text), -20 - place);
        var now = told(x);
        var want = told(maker.make());
        want.set(0, want.get(0) + 1);
        for (int k = 0; k < want.size(); k++) due("telling " + k, now.get(k), want.get(k));
    }

    private static void numbers() {
        edge("(also a NUMBER that may not be", () -> {
            faulty("size 1", 5);
            faulty("size 5", 5);
            faulty("size 0", 5);
            faulty("box 27 to 0", 4);
            faulty("box 0 to 27", 9);
            faulty("cut 999 to 0", 4);
            faulty("cut 0 to 999", 9);
            faulty("piece;fill 27 to 0", 11);
            faulty("piece;fill 0 to 27", 16);
            faulty("shows 27 0", 6);
            faulty("shows 26 10", 9);
            faulty("heavy 0", 6);
            faulty("heavy 65", 6);
            faulty("wear 0", 5);
            faulty("wear 000", 5);
            // the SIZE that the text itself has told by then
            faulty("size 2;box 0 to 8", 16);
            faulty("size 2;shows 8 1", 13);
            faulty("size 4;box 64 to 0", 11);
            reads("size 2;box 0 to 7", 2);
            reads("size 4;shows 63 1", 2);
            faulty("box 0 to 27;size 4", 9);
        });
        edge("or has more than 3 digits", () -> {
            faulty("size 0003", 5);
            faulty("wear 0100", 5);
            faulty("wear 1000", 5);
            faulty("heavy 00000000000000000001", 6);
            faulty("wear 4294967297", 5);
            faulty("box 0000 to 1", 4);
            faulty("box 0 to 0000", 9);
            reads("size 003;box 000 to 026;wear 001;heavy 064;shows 000 009", 5);
        });
    }

    private static void faults() {
        edge("The FAULT: the place of the first byte of the first TOKEN that can't stand there", () -> {
            faulty("   box   99  to  99", 9);
            faulty("wear 5;    sizes 9", 11);
            faulty("box box", 4);
            faulty("box ;", 4);
            faulty("box 1 ;", 6);
            faulty("box 1 1", 6);
            faulty("box 1 too 1", 6);
            faulty("box 1 t 1", 6);
            faulty("box 1 so 1", 6);
            faulty("box 1 tp 1", 6);
            faulty("box 1 to to", 9);
            faulty("box 1 to ;", 9);
            faulty("box to", 4);
            faulty("cut 1 box", 6);
            faulty("piece 1", 6);
            faulty("piece to", 6);
            faulty("size to", 5);
            faulty("size ;", 5);
            faulty("shows ;", 6);
            faulty("shows 1 to", 8);
            faulty("shows 1 ;", 8);
            faulty("heavy a", 6);
            faulty("wear ;", 5);
            faulty("to 1", 0);
            faulty("5", 0);
            faulty("piece;5", 6);
            faulty("piece;to", 6);
            faulty("box 0 to 1 2", 11);
            faulty("size 2 to", 7);
            for (String word : new String[] {"siz", "bo", "cu", "piec", "fil", "show", "heav", "wea", "boxx", "cutt", "showss", "heavyy", "wearr",
                "tize", "dox", "dut", "qiece", "gill", "thows", "geavy", "vear", "sizf", "boy", "cuu", "piecf", "filk", "showt", "heavz", "weas", "siye", "box\u0000"}) {
                faulty("piece;" + word + " 99", word.endsWith("\u0000") ? 9 : 6);
            }
            due("the greatest place", readText(fresh(), "wear 7" + " ".repeat(243) + "7"), -20 - 249);
        });
        edge("what there is no room for", () -> {
            faulty(EIGHT + ";piece", 48);
            faulty(EIGHT + ";  piece", 50);
            faulty(EIGHT + ";piece;piece", 48);
            faulty(EIGHT + ";piece x", 48);
            reads(EIGHT + ";size 2;piece", 10);
            MouldThatComesOff x = withPieces(fresh(), 7);
            due("beside what there is", readText(x, "piece;piece"), -26);
            due("none came", x.status(2), 7);
            due("one has room", readText(x, "piece"), 1);
            due("none more", readText(x, "piece"), -20);
        });
        edge("fill without a PIECE: its word", () -> {
            faulty("fill 0 to 1", 0);
            faulty("  fill 0 to 1", 2);
            faulty("fill 99 to", 0);
            faulty("fill", 0);
            faulty("piece;size 3;fill 0 to 1", 13);
            faulty("box 0 to 0;fill 0 to 1", 11);
            reads("piece;fill 0 to 1", 2);
            due("one of what there is", readText(formedWith(0, 0), "fill 0 to 1"), 1);
        });
        edge("a byte that begins none)", () -> {
            for (int c = 0; c < 256; c++) {
                boolean begins = c == 32 || c == ';' || c >= '0' && c <= '9' || c >= 'a' && c <= 'z';
                if (!begins) faulty("piece; " + (char) c, 7);
                if (!begins) faulty("wear" + (char) c + "5", 4);
            }
            faulty("wear 0#", 5);
            faulty("#", 0);
        });
        edge("THE TAPE's size, if it ends too early", () -> {
            faulty("size", 4);
            faulty("size  ", 6);
            faulty("box", 3);
            faulty("box 1", 5);
            faulty("box 1 ", 6);
            faulty("box 1 to", 8);
            faulty("box 1 to  ", 10);
            faulty("cut", 3);
            faulty("cut 1", 5);
            faulty("cut 1 to", 8);
            faulty("piece;fill", 10);
            faulty("piece;fill 1", 12);
            faulty("piece;fill 1 to", 15);
            faulty("shows", 5);
            faulty("shows 1", 7);
            faulty("heavy", 5);
            faulty("wear", 4);
            faulty("wear 1;", 7);
            faulty("", 0);
            faulty("wear" + " ".repeat(246), 250);
        });
    }
}
