/** Positions are set up: promises 1 to 6, with the terms that they use. */
final class SetUpTest extends Boards {
    public static void main(String[] args) throws ReflectiveOperationException {
        Due.sentences(SetUpTest.class);
    }

    @Sentence(in = "Terms", says = "The constants: NONE = -1: There is none.")
    static void none() {
        Due.answer("NONE", MoveList.NONE, -1);
    }

    @Sentence(in = "Terms", says = "SQUARES are 0 .. 63: square s is on the file s % 8 (a .. h) and the rank s / 8 (1 .. 8).")
    static void squares() {
        // A rook that stands alone goes to all squares of its file and its rank, and to no others.
        for (int s = 0; s < 64; s++) {
            Oracle o = new Oracle();
            o.board[s] = 4;
            addQuietKings(o);
            MoveList x = of(o);
            Due.answer("a rook on " + s, x.on(s, true), 14);
            for (int t = 0; t < 64; t++) {
                legal("a rook alone", x, s + 64 * t, s != t && (s % 8 == t % 8 || s / 8 == t / 8));
            }
        }
    }

    @Sentence(in = "Terms", says = "PIECES: 0 none, 1 .. 6 a white pawn, knight, bishop, rook, queen, king, 7 .. 12 a black one.")
    static void pieces() {
        int[] due = {0, 1, 8, 13, 14, 27, 8};
        for (int side = 0; side < 2; side++) {
            for (int type = 0; type <= 6; type++) {
                Oracle o = new Oracle();
                int piece = type == 0 ? 0 : type + 6 * side;
                o.side = side;
                o.board[27] = piece;
                if (type == 6) {
                    o.board[63] = 12 - 6 * side;
                } else {
                    addQuietKings(o);
                }
                Due.answer("piece " + piece + " on d4, its side to move", of(o).on(27, true), due[type]);
                o.side = 1 - side;
                Due.answer("piece " + piece + " on d4, the other side to move", of(o).on(27, true), 0);
            }
        }
    }

    @Sentence(in = "Terms", says = "SIDE 0 is white, 1 black.")
    static void sides() {
        MoveList x = game();
        Due.answer("white: e2e4", x.place(mv("e2e4")) != NONE, true);
        Due.answer("white: e7e5", x.place(mv("e7e5")) != NONE, false);
        x.state(1, 15, NONE);
        Due.answer("black: e2e4", x.place(mv("e2e4")) != NONE, false);
        Due.answer("black: e7e5", x.place(mv("e7e5")) != NONE, true);
    }

    @Sentence(in = "Terms", says = "RIGHTS are the sum of 1 (white's king side), 2 (white's queen side), 4, 8 (black's).")
    static void rightsAreASum() {
        for (int rights = 0; rights < 16; rights++) {
            MoveList x = position(CASTLES, 0, rights, "-");
            Due.answer("e1g1 with rights " + rights, x.place(mv("e1g1")) != NONE, rights % 2 == 1);
            Due.answer("e1c1 with rights " + rights, x.place(mv("e1c1")) != NONE, rights / 2 % 2 == 1);
            x.state(1, rights, NONE);
            Due.answer("e8g8 with rights " + rights, x.place(mv("e8g8")) != NONE, rights / 4 % 2 == 1);
            Due.answer("e8c8 with rights " + rights, x.place(mv("e8c8")) != NONE, rights / 8 == 1);
        }
    }

    @Sentence(in = "Terms", says = "PASSING is a square that can be taken in passing, or NONE.")
    static void passingOrNone() {
        MoveList x = white("4k3/8/8/p2pP3/8/8/8/4K3");
        Due.answer("none can be taken in passing", x.count(), 6);
        x.state(0, 0, sq("d6"));
        Due.answer("d6 can", x.count(), 7);
        legal(x, "e5d6", true);
        // Square 0 is a square, and not the same as none.
        MoveList y = position("4k3/8/8/8/8/8/Pp6/4K3", 1, 0, "a1");
        Due.answer("a1 can", y.place(mv("b2a1q")) != NONE, true);
        y.state(1, 0, NONE);
        Due.answer("a1 can't", y.place(mv("b2a1q")) != NONE, false);
        MoveList z = position("4k3/6Pp/8/8/8/8/8/4K3", 0, 0, "h8");
        Due.answer("h8 can", z.place(mv("g7h8q")) != NONE, true);
        z.state(0, 0, NONE);
        Due.answer("h8 can't", z.place(mv("g7h8q")) != NONE, false);
    }

    @Sentence(in = "Terms", says = "At first the board is empty, SIDE 0, RIGHTS 0, PASSING NONE.")
    static void atFirst() {
        MoveList x = new MoveList();
        asAtFirst("at first", x);
        for (int square : NO_SQUARES) {
            Due.answer("at first: at(" + square + ")", x.at(square), NONE);
        }
    }

    @Sentence(in = "Terms", says = "A position can be PLAYED if each side has just one king,")
    static void justOneKing() {
        for (int white = 0; white <= 4; white++) {
            for (int black = 0; black <= 4; black++) {
                for (int side = 0; side < 2; side++) {
                    MoveList x = new MoveList();
                    for (int n = 0; n < white; n++) {
                        x.put(2 * n, 6);
                    }
                    for (int n = 0; n < black; n++) {
                        x.put(63 - 2 * n, 12);
                    }
                    x.state(side, 0, NONE);
                    Due.answer(white + " and " + black + " kings, side " + side, x.playable(), white == 1 && black == 1);
                }
            }
        }
        MoveList full = new MoveList();
        for (int s = 0; s < 64; s++) {
            full.put(s, 6);
        }
        Due.answer("nothing but white kings", full.playable(), false);
        full.put(63, 12);
        Due.answer("63 white kings, a black one", full.playable(), false);
        MoveList pawns = new MoveList();
        for (int s = 0; s < 64; s++) {
            pawns.put(s, s < 32 ? 1 : 7);
        }
        Due.answer("a full board without kings", pawns.playable(), false);
        pawns.put(0, 6);
        pawns.put(63, 12);
        Due.answer("a full board with both", pawns.playable(), true);
    }

    @Sentence(in = "Terms",
        says = "and that of the side that is not to move does not stand on a square that the other one ATTACKS.")
    static void theOtherKingIsSafe() {
        playable("8/8/8/3k4/4K3/8/8/8", false, false);
        playable("8/8/3k4/8/4K3/8/8/8", true, true);
        playable("4k3/8/8/8/4R3/8/8/4K3", false, true);
        playable("4k3/4p3/8/8/4R3/8/8/4K3", true, true);
        playable("4k3/8/8/8/1b6/8/8/4K3", true, false);
        playable("4k3/3P4/8/8/8/8/8/4K3", false, true);
        playable("4k3/3p4/8/8/8/8/8/4K3", true, true);
        playable("4k3/8/8/8/8/8/5p2/4K3", true, false);
        playable("4k3/8/3N4/8/8/8/8/4K3", false, true);
        // Each king attacked: by the side to move it must not be.
        playable("4k3/8/8/1B6/1b6/8/8/4K3", false, false);
        // A pinned piece attacks all the same.
        playable("4r3/8/8/8/2k5/8/4B3/4K3", false, true);
    }

    private static void playable(String board, boolean white, boolean black) {
        Due.answer(board + " for white: playable()", white(board).playable(), white);
        Due.answer(board + " for black: playable()", black(board).playable(), black);
    }

    @Sentence(in = "Promise 1", says = "An empty board.")
    static void newObject() {
        MoveList x = new MoveList();
        asAtFirst("new", x);
        MoveList other = game();
        asAtFirst("new, beside another one", x);
        asAtFirst("new, after another one", new MoveList());
        beginning("the other one", other);
    }

    @Sentence(in = "Promise 2", says = "All is as at first.")
    static void clear() {
        MoveList x = new MoveList();
        x.clear();
        asAtFirst("cleared at once", x);
        MoveList full = new MoveList();
        for (int s = 0; s < 64; s++) {
            full.put(s, 1 + s % 12);
        }
        full.state(1, 15, 63);
        full.clear();
        asAtFirst("cleared, having been full", full);
        MoveList made = gameAfter("e2e4", "e7e5", "g1f3");
        made.clear();
        asAtFirst("cleared after moves", made);
        // The list of before is not there any more either.
        MoveList listed = game();
        Due.answer("begun: count()", listed.count(), 20);
        listed.clear();
        asAtFirst("cleared, having been listed", listed);
        setUp(listed, KINGS);
        Due.answer("set up after clear: count()", listed.count(), 5);
        looks("set up after clear", listed, 0, 0, NONE, 0);
    }

    @Sentence(in = "Promise 3", says = "The position in which a game of chess begins.")
    static void begin() {
        beginning("begun", game());
        MoveList x = new MoveList();
        for (int s = 0; s < 64; s++) {
            x.put(s, 11);
        }
        x.state(1, 0, 40);
        x.begin();
        beginning("begun, having been full", x);
        MoveList listed = white(KINGS);
        Due.answer("kings: count()", listed.count(), 5);
        listed.begin();
        Due.answer("begun, having been listed: count()", listed.count(), 20);
        MoveList unplayed = new MoveList();
        Due.thrown("empty: count()", STATE, unplayed::count);
        unplayed.begin();
        beginning("begun, having thrown", unplayed);
        MoveList again = gameAfter("g1f3", "g8f6");
        again.begin();
        beginning("begun anew", again);
    }

    @Sentence(in = "Promise 4", says = "A square gets a piece (or none).")
    static void put() {
        for (int s = 0; s < 64; s++) {
            MoveList x = new MoveList();
            for (int p = 12; p >= 0; p--) {
                x.put(s, p);
                Due.answer("put(" + s + ", " + p + "): at", x.at(s), p);
                x.put(s, p);
                Due.answer("put(" + s + ", " + p + ") twice: at", x.at(s), p);
            }
        }
        MoveList all = new MoveList();
        for (int s = 0; s < 64; s++) {
            all.put(s, s % 13);
        }
        for (int s = 0; s < 64; s++) {
            Due.answer("all put: at(" + s + ")", all.at(s), s % 13);
        }
        for (int s = 0; s < 64; s++) {
            all.put(s, 0);
        }
        asAtFirst("all taken away", all);
        MoveList y = position(KINGS, 1, 9, "d3");
        y.put(sq("a8"), 11);
        looks("put leaves the state as it is", y, 1, 9, sq("d3"), 0);
        MoveList z = white("4k3/8/8/8/8/8/8/K7");
        Due.answer("a lone king: count()", z.count(), 3);
        z.put(sq("h2"), 1);
        Due.answer("and a pawn: count()", z.count(), 5);
        z.put(sq("h4"), 7);
        Due.answer("and one in its way: count()", z.count(), 4);
        z.put(sq("h4"), 0);
        Due.answer("and none: count()", z.count(), 5);
    }

    @Sentence(in = "Promise 4", says = "IndexOutOfBoundsException if there is no such square,")
    static void putNoSquare() {
        for (int square : NO_SQUARES) {
            MoveList x = gameAfter("e2e4");
            refused("put(" + square + ", 1)", INDEX, x, () -> put(x, square, 1));
            Due.thrown("put(" + square + ", 0)", INDEX, () -> put(x, square, 0));
            Due.answer("put(" + square + ", ..) forgets nothing", x.unmake(), mv("e2e4"));
        }
        MoveList edge = new MoveList();
        edge.put(0, 1);
        edge.put(63, 12);
        Due.answer("square 0 is one", edge.at(0), 1);
        Due.answer("square 63 is one", edge.at(63), 12);
    }

    @Sentence(in = "Promise 4", says = "IllegalArgumentException if there is no such piece.")
    static void putNoPiece() {
        for (int piece : new int[] {-1, 13, -2, 14, 16, 256, 65536, LEAST, MOST}) {
            for (int square : new int[] {0, 12, 28, 63}) {
                MoveList x = gameAfter("e2e4");
                refused("put(" + square + ", " + piece + ")", ARGUMENT, x, () -> put(x, square, piece));
                Due.answer("put(.., " + piece + ") forgets nothing", x.unmake(), mv("e2e4"));
            }
        }
    }

    @Sentence(in = "Promise 5", says = "SIDE, RIGHTS and PASSING are set up.")
    static void state() {
        for (int side = 0; side < 2; side++) {
            for (int rights = 0; rights < 16; rights++) {
                MoveList x = new MoveList();
                for (int passing = NONE; passing < 64; passing++) {
                    x.state(side, rights, passing);
                    looks("state(" + side + ", " + rights + ", " + passing + ")", x, side, rights, passing, 0);
                }
            }
        }
        MoveList y = game();
        Due.answer("white: place of b1a3", y.place(mv("b1a3")), 0);
        y.state(1, 15, NONE);
        Due.answer("state leaves the board as it is", y.at(4), 6);
        Due.answer("the list is black's then: place of a7a5", y.place(mv("a7a5")), 0);
    }

    @Sentence(in = "Promise 5", says = "IllegalArgumentException if there is no such SIDE,")
    static void stateNoSide() {
        for (int side : new int[] {-1, 2, 3, -2, 256, 257, 65536, LEAST, LEAST + 1, MOST}) {
            refusedState(side, 3, 16);
        }
    }

    @Sentence(in = "Promise 5", says = "RIGHTS are not 0 .. 15,")
    static void stateNoRights() {
        for (int rights : new int[] {-1, 16, 17, 31, 32, 255, 256, -16, LEAST, LEAST + 3, MOST}) {
            refusedState(0, rights, 16);
        }
    }

    @Sentence(in = "Promise 5", says = "or passing is neither a square nor NONE.")
    static void stateNoPassing() {
        for (int passing : NO_SQUARES) {
            if (passing != NONE) {
                refusedState(0, 3, passing);
            }
        }
        refusedState(2, 16, 64);
    }

    private static void refusedState(int side, int rights, int passing) {
        MoveList x = gameAfter("e2e4");
        refused("state(" + side + ", " + rights + ", " + passing + ")", ARGUMENT, x, () -> state(x, side, rights, passing));
        Due.answer("a refused state forgets nothing", x.unmake(), mv("e2e4"));
    }

    @Sentence(in = "Promise 6", says = "Whether the position can be PLAYED.")
    static void playable() {
        for (String board : NOT_PLAYED) {
            MoveList x = white(board);
            String before = picture(x);
            Due.answer(board + ": playable()", x.playable(), false);
            Due.answer(board + ": all, after false", picture(x), before);
        }
        MoveList x = new MoveList();
        x.put(sq("e1"), 6);
        Due.answer("one king", x.playable(), false);
        x.put(sq("e8"), 12);
        Due.answer("both kings", x.playable(), true);
        x.put(sq("e4"), 4);
        Due.answer("a rook attacks the other one", x.playable(), false);
        x.state(1, 0, NONE);
        Due.answer("which is to move", x.playable(), true);
        x.put(sq("e4"), 10);
        Due.answer("a rook of its own attacks the other one", x.playable(), false);
        x.clear();
        Due.answer("cleared", x.playable(), false);
        Due.answer("mate can be played", black(MATE).playable(), true);
        Due.answer("stale can be played", black(STALE).playable(), true);
    }
}
