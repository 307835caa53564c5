/** Moves are made and taken back: promises 13 to 15 and 18, with the terms that they use. */
final class GameTest extends Boards {
    private static final String[] ROUND = {"g1f3", "g8f6", "f3g1", "f6g8"};

    public static void main(String[] args) throws ReflectiveOperationException {
        Due.sentences(GameTest.class);
    }

    /** A game in which so many moves can be taken back. */
    private static MoveList made(int moves) {
        MoveList x = game();
        for (int n = 0; n < moves; n++) {
            x.make(mv(ROUND[n % 4]));
        }
        return x;
    }

    @Sentence(in = "What it is", says = "An object is used for at most 512 calls after it has been made;")
    static void calls() {
        // Up to the 512th call the answers are those that are due, whichever call is made so often.
        MoveList x = game();
        for (int call = 2; call <= 512; call++) {
            int n = (call - 2) % 400;
            if (n < 200) {
                Due.answer("call " + call + ", make", x.make(mv(ROUND[n % 4])), n % 4 == 1 || n % 4 == 2 ? 22 : 20);
            } else {
                Due.answer("call " + call + ", unmake", x.unmake(), mv(ROUND[(399 - n) % 4]));
            }
        }
        MoveList asked = game();
        for (int call = 2; call <= 512; call++) {
            askedOnceMore(asked, call);
        }
        MoveList put = new MoveList();
        for (int call = 1; call <= 511; call++) {
            put.put(call % 64, call % 13);
        }
        Due.answer("the 512th call, at(63)", put.at(63), 511 % 13);
        MoveList unplayed = new MoveList();
        for (int call = 1; call <= 512; call++) {
            Due.thrown("call " + call + ", count()", STATE, unplayed::count);
        }
        MoveList lines = game();
        for (int call = 2; call <= 512; call++) {
            Due.answer("call " + call + ", lines(2)", lines.lines(2), 400);
        }
    }

    private static void askedOnceMore(MoveList x, int call) {
        switch (call % 9) {
            case 0:
                Due.answer("call " + call + ", count()", x.count(), 20);
                break;
            case 1:
                Due.answer("call " + call + ", kind(e2e4)", x.kind(mv("e2e4")), 0);
                break;
            case 2:
                Due.answer("call " + call + ", lines(1)", x.lines(1), 20);
                break;
            case 3:
                Due.answer("call " + call + ", pinned()", x.pinned(), 0);
                break;
            case 4:
                Due.answer("call " + call + ", check()", x.check(), false);
                break;
            case 5:
                Due.thrown("call " + call + ", make(-1)", ARGUMENT, () -> x.make(-1));
                break;
            case 6:
                Due.answer("call " + call + ", place(e2e4)", x.place(mv("e2e4")), 13);
                break;
            case 7:
                Due.answer("call " + call + ", unmake()", x.unmake(), NONE);
                break;
            default:
                Due.thrown("call " + call + ", move(20)", INDEX, () -> x.move(20));
                break;
        }
    }

    @Sentence(in = "Terms", says = "When it is made: RIGHTS of a side go when its king moves;")
    static void rightsGoWithTheKing() {
        MoveList x = position(CASTLES, 0, 15, "-");
        for (String move : new String[] {"e1e2", "e1d1", "e1f1", "e1g1", "e1c1"}) {
            rightsAfter(x, move, 12);
        }
        x.state(1, 15, NONE);
        for (String move : new String[] {"e8e7", "e8d8", "e8f8", "e8g8", "e8c8"}) {
            rightsAfter(x, move, 3);
        }
        // From any square, whatever stands on the corners; and those that are gone stay so.
        MoveList y = position("8/8/3k4/8/8/3K4/8/8", 0, 15, "-");
        rightsAfter(y, "d3c3", 12);
        y.state(1, 15, NONE);
        rightsAfter(y, "d6e6", 3);
        for (int rights = 0; rights < 16; rights++) {
            y.state(0, rights, NONE);
            rightsAfter(y, "d3d2", rights & 12);
            y.state(1, rights, NONE);
            rightsAfter(y, "d6d7", rights & 3);
        }
        // No other piece's move takes both.
        rightsAfter(game(), "e2e4", 15);
        rightsAfter(game(), "b1c3", 15);
    }

    @Sentence(in = "Terms", says = "a right goes when a rook's corner is from or to.")
    static void rightsGoWithACorner() {
        MoveList x = position(CASTLES, 0, 15, "-");
        rightsAfter(x, "h1h2", 14);
        rightsAfter(x, "a1a2", 13);
        rightsAfter(x, "a1a8", 15 - 2 - 8);
        rightsAfter(x, "h1h8", 15 - 1 - 4);
        x.state(1, 15, NONE);
        rightsAfter(x, "h8g8", 11);
        rightsAfter(x, "a8b8", 7);
        rightsAfter(x, "a8a1", 15 - 2 - 8);
        rightsAfter(x, "h8h1", 15 - 1 - 4);
        // Whatever comes from there or goes there: a knight, a bishop, a pawn that promotes.
        MoveList y = position("8/8/3k4/8/8/3K4/8/N6b", 0, 15, "-");
        rightsAfter(y, "a1b3", 13);
        y.state(1, 15, NONE);
        rightsAfter(y, "h1g2", 14);
        rightsAfter(y, "h1a8", 15 - 1 - 8);
        MoveList pawns = position("8/P6P/3k4/8/8/3K4/p6p/8", 0, 15, "-");
        rightsAfter(pawns, "a7a8q", 15 - 8);
        rightsAfter(pawns, "h7h8n", 15 - 4);
        pawns.state(1, 15, NONE);
        rightsAfter(pawns, "a2a1r", 15 - 2);
        rightsAfter(pawns, "h2h1b", 15 - 1);
        // A king on a corner: its own rights, and that of the corner.
        MoveList king = position("7k/8/8/8/8/8/8/K7", 0, 15, "-");
        rightsAfter(king, "a1a2", 12);
        MoveList far = position("K7/8/8/8/8/8/8/7k", 0, 15, "-");
        rightsAfter(far, "a8a7", 15 - 3 - 8);
        far.state(1, 15, NONE);
        rightsAfter(far, "h1h2", 15 - 12 - 1);
        // Beside a corner nothing goes.
        MoveList beside = position("1r4r1/8/3k4/8/8/3K4/8/1R4R1", 0, 15, "-");
        rightsAfter(beside, "b1b8", 15);
        rightsAfter(beside, "g1f1", 15);
    }

    private static void rightsAfter(MoveList x, String move, int due) {
        int before = x.look(1);
        x.make(mv(move));
        Due.answer(before + ": rights after " + move, x.look(1), due);
        Due.answer(before + ": unmake " + move, x.unmake(), mv(move));
        Due.answer(before + ": rights after " + move + " was taken back", x.look(1), before);
    }

    @Sentence(in = "Terms", says = "PASSING is the square that a pawn passed that went two ranks,")
    static void passingAfterTwoRanks() {
        for (int file = 0; file < 8; file++) {
            for (int beside = file - 1; beside <= file + 1; beside += 2) {
                if (beside >= 0 && beside < 8) {
                    passingAfter(8 + file, 24 + file, 24 + beside, 16 + file);
                    passingAfter(48 + file, 32 + file, 32 + beside, 40 + file);
                }
            }
        }
        passingAfter("4k3/8/8/8/3p4/8/4P3/4K3", 0, "e2e3", "-");
        // A rook that goes two ranks passes nothing, nor does a knight, nor a queen from its side's second rank.
        passingAfter("7k/8/8/8/3p4/8/4R3/4K3", 0, "e2e4", "-");
        passingAfter("7k/8/8/8/3p4/8/4N3/K7", 0, "e2f4", "-");
        passingAfter("8/3q4/8/2P5/8/8/8/k6K", 1, "d7d5", "-");
        // Until the next move is made, and again when that is taken back.
        MoveList x = white("4k3/8/8/8/3p4/8/4P3/4K3");
        x.make(mv("e2e4"));
        Due.answer("e2e4", x.look(2), sq("e3"));
        x.make(mv("e8e7"));
        Due.answer("e8e7", x.look(2), NONE);
        x.unmake();
        Due.answer("e8e7 taken back", x.look(2), sq("e3"));
        x.unmake();
        Due.answer("e2e4 taken back", x.look(2), NONE);
        MoveList y = position("4k3/8/8/8/8/8/8/4K3", 0, 0, "h8");
        y.make(mv("e1e2"));
        Due.answer("one that was set up is gone", y.look(2), NONE);
        y.unmake();
        Due.answer("and there again", y.look(2), 63);
    }

    /** A pawn goes two ranks, one of the other side stands beside the square that it comes to. */
    private static void passingAfter(int from, int to, int theirs, int due) {
        Oracle o = new Oracle();
        o.side = from < 16 ? 0 : 1;
        o.board[from] = 1 + 6 * o.side;
        o.board[theirs] = 7 - 6 * o.side;
        addQuietKings(o);
        MoveList x = of(o);
        x.make(from + 64 * to);
        Due.answer(o + ": PASSING after " + from + " to " + to, x.look(2), due);
        legal(o.toString(), x, theirs + 64 * due, true);
    }

    private static void passingAfter(String board, int side, String move, String due) {
        MoveList x = position(board, side, 0, "-");
        x.make(mv(move));
        Due.answer(board + ": PASSING after " + move, x.look(2), passingSquare(due));
    }

    @Sentence(in = "Terms", says = "if a pawn of the other side ATTACKS it (legal or not), else NONE.")
    static void passingIfAttacked() {
        passingAfter("4k3/8/8/8/3p4/8/4P3/4K3", 0, "e2e4", "e3");
        passingAfter("4k3/8/8/8/5p2/8/4P3/4K3", 0, "e2e4", "e3");
        passingAfter("4k3/4p3/8/3P4/8/8/8/4K3", 1, "e7e5", "e6");
        // None, or not where it attacks, or no pawn, or not the other side's.
        passingAfter("4k3/8/8/8/8/8/4P3/4K3", 0, "e2e4", "-");
        passingAfter("4k3/8/8/8/8/3p4/4P3/4K3", 0, "e2e4", "-");
        passingAfter("4k3/8/8/3p4/8/8/4P3/4K3", 0, "e2e4", "-");
        passingAfter("4k3/8/8/8/2p5/8/4P3/4K3", 0, "e2e4", "-");
        passingAfter("4k3/8/8/8/3P4/8/4P3/4K3", 0, "e2e4", "-");
        passingAfter("4k3/8/8/8/3n4/8/4P3/4K3", 0, "e2e4", "-");
        passingAfter("4k3/8/8/8/3b4/8/4P3/4K3", 0, "e2e4", "-");
        passingAfter("8/8/8/8/5k2/8/4P3/K7", 0, "e2e4", "-");
        passingAfter("4k3/4p3/8/8/3P4/8/8/4K3", 1, "e7e5", "-");
        // Not over the board's side.
        passingAfter("4k3/8/8/8/7p/8/P7/4K3", 0, "a2a4", "-");
        passingAfter("4k3/8/8/7p/8/8/P7/4K3", 0, "a2a4", "-");
        passingAfter("4k3/8/8/8/p7/8/7P/4K3", 0, "h2h4", "-");
        passingAfter("4k3/8/8/8/8/p7/7P/4K3", 0, "h2h4", "-");
        passingAfter("4k3/p7/8/7P/8/8/8/4K3", 1, "a7a5", "-");
        passingAfter("4k3/7p/8/P7/8/8/8/4K3", 1, "h7h5", "-");
        // Taking it would not be legal: the pawn is pinned, or its king is in check.
        MoveList pinned = white("3k4/8/8/8/3p4/8/4P3/3RK3");
        pinned.make(mv("e2e4"));
        Due.answer("pinned: PASSING", pinned.look(2), sq("e3"));
        legal(pinned, "d4e3", false);
        MoveList check = white("8/8/8/7k/3p4/8/4P3/3BK3");
        check.make(mv("e2e4"));
        Due.answer("in check: PASSING", check.look(2), sq("e3"));
        legal(check, "d4e3", false);
        MoveList both = white("4k3/8/8/8/3p1p2/8/4P3/4K3");
        both.make(mv("e2e4"));
        Due.answer("two pawns: PASSING", both.look(2), sq("e3"));
        Due.answer("both may take", both.on(sq("e3"), false), 2);
    }

    @Sentence(in = "Terms", says = "The other side is to move.")
    static void theOtherSide() {
        MoveList x = game();
        for (int n = 0; n < 20; n++) {
            Due.answer("after " + n + " moves: look(0)", x.look(0), n % 2);
            x.make(mv(ROUND[n % 4]));
        }
        for (int n = 19; n >= 0; n--) {
            x.unmake();
            Due.answer("back to " + n + " moves: look(0)", x.look(0), n % 2);
        }
        MoveList black = black(KINGS);
        black.make(mv("e8e7"));
        Due.answer("black began: look(0)", black.look(0), 0);
    }

    @Sentence(in = "Terms", says = "Setting up anything forgets the moves that were made;")
    static void forgetting() {
        forgotten("clear", 0);
        forgotten("begin", 1);
        forgotten("put", 2);
        forgotten("put of what is there", 3);
        forgotten("state", 4);
        forgotten("state of what is so", 5);
        // From the limit on all 200 can be made again.
        MoveList x = made(200);
        x.state(0, 15, NONE);
        Due.answer("forgotten: look(3)", x.look(3), 0);
        for (int n = 0; n < 200; n++) {
            x.make(mv(ROUND[n % 4]));
        }
        Due.answer("200 again: look(3)", x.look(3), 200);
    }

    private static void forgotten(String what, int way) {
        MoveList x = made(5);
        switch (way) {
            case 0:
                x.clear();
                break;
            case 1:
                x.begin();
                break;
            case 2:
                x.put(40, 0);
                break;
            case 3:
                x.put(0, 4);
                break;
            case 4:
                x.state(0, 0, 20);
                break;
            default:
                x.state(x.look(0), x.look(1), x.look(2));
                break;
        }
        Due.answer(what + ": look(3)", x.look(3), 0);
        String after = picture(x);
        Due.answer(what + ": unmake()", x.unmake(), NONE);
        Due.answer(what + ": all, after unmake", picture(x), after);
    }

    @Sentence(in = "Terms", says = "at most 200 can be taken back.")
    static void atMost200() {
        MoveList x = made(200);
        Due.answer("look(3)", x.look(3), 200);
        for (int n = 199; n >= 0; n--) {
            Due.answer("unmake " + n, x.unmake(), mv(ROUND[n % 4]));
        }
        Due.answer("no more to unmake", x.unmake(), NONE);
        beginning("all taken back", x);
    }

    @Sentence(in = "Terms", says = "Of several exceptions the first one listed is thrown.")
    static void theFirstOneListed() {
        for (int square : NO_SQUARES) {
            for (int piece : new int[] {-1, 13, LEAST, MOST}) {
                MoveList x = game();
                Due.thrown("put(" + square + ", " + piece + ")", INDEX, () -> put(x, square, piece));
            }
        }
        for (String board : NOT_PLAYED) {
            MoveList x = white(board);
            for (int wrong : new int[] {-1, LEAST, MOST, 64}) {
                Due.thrown(board + ": move(" + wrong + ")", STATE, () -> x.move(wrong));
                Due.thrown(board + ": kind(" + wrong + ")", STATE, () -> x.kind(wrong));
                Due.thrown(board + ": lines(" + wrong + ")", STATE, () -> x.lines(wrong));
                Due.thrown(board + ": make(" + wrong + ")", STATE, () -> x.make(wrong));
                // What would be answered is not either.
                Due.thrown(board + ": place(" + wrong + ")", STATE, () -> x.place(wrong));
                Due.thrown(board + ": on(" + wrong + ", true)", STATE, () -> x.on(wrong, true));
            }
        }
        MoveList full = made(200);
        for (int wrong : new int[] {-1, LEAST, MOST, 0, mv("g1g3"), mv("g8f6")}) {
            Due.thrown("at the limit: make(" + wrong + ")", ARGUMENT, () -> full.make(wrong));
        }
        Due.thrown("at the limit: make of a legal one", UNSUPPORTED, () -> full.make(mv("g1f3")));
    }

    @Sentence(in = "Terms", says = "What throws, or answers false, changes nothing.")
    static void changesNothing() {
        MoveList x = made(3);
        refused("put(64, 0)", INDEX, x, () -> put(x, 64, 0));
        refused("put(0, 13)", ARGUMENT, x, () -> put(x, 0, 13));
        MoveList y = made(3);
        refused("state(2, 0, 0)", ARGUMENT, y, () -> state(y, 2, 0, 0));
        refused("state(0, 16, 0)", ARGUMENT, y, () -> state(y, 0, 16, 0));
        MoveList z = made(3);
        refused("state(0, 0, 64)", ARGUMENT, z, () -> state(z, 0, 0, 64));
        refused("move(-1)", INDEX, z, () -> z.move(-1));
        MoveList v = made(3);
        refused("kind(-1)", ARGUMENT, v, () -> v.kind(-1));
        refused("lines(4)", ARGUMENT, v, () -> v.lines(4));
        MoveList w = made(3);
        refused("make(-1)", ARGUMENT, w, () -> w.make(-1));
        String before = picture(w);
        Due.answer("check()", w.check(), false);
        Due.answer("all, after false", picture(w), before);
        for (MoveList each : new MoveList[] {x, y, z, v, w}) {
            for (int n = 2; n >= 0; n--) {
                Due.answer("what was made is taken back, " + n, each.unmake(), mv(ROUND[n]));
            }
            Due.answer("and no more", each.unmake(), NONE);
        }
        // Thrown between being set up and being asked: the list is found all the same.
        MoveList late = white(KINGS);
        late.put(sq("a2"), 1);
        Due.thrown("put(64, 0)", INDEX, () -> put(late, 64, 0));
        Due.thrown("state(0, 0, 64)", ARGUMENT, () -> state(late, 0, 0, 64));
        Due.answer("count()", late.count(), 7);
    }

    @Sentence(in = "Promise 13", says = "A LEGAL move is made:")
    static void make() {
        MoveList x = game();
        x.make(mv("e2e4"));
        Due.answer("e2", x.at(sq("e2")), 0);
        Due.answer("e4", x.at(sq("e4")), 1);
        looks("e2e4", x, 1, 15, NONE, 1);
        MoveList takes = white("4k3/8/8/3p4/4P3/8/8/4K3");
        takes.make(mv("e4d5"));
        Due.answer("taken: d5", takes.at(sq("d5")), 1);
        Due.answer("taken: e4", takes.at(sq("e4")), 0);
        MoveList passing = position("4k3/8/8/3pP3/8/8/8/4K3", 0, 0, "d6");
        passing.make(mv("e5d6"));
        Due.answer("taken in passing: d5", passing.at(sq("d5")), 0);
        Due.answer("taken in passing: d6", passing.at(sq("d6")), 1);
        Due.answer("taken in passing: e5", passing.at(sq("e5")), 0);
        MoveList promotes = black("4k3/8/8/8/8/8/p7/4K3");
        promotes.make(mv("a2a1n"));
        Due.answer("a black pawn becomes a black knight", promotes.at(0), 8);
        Due.answer("and is gone", promotes.at(8), 0);
        // Each move of a position of many sorts, against the oracle.
        MoveList y = position("r3k2r/p1pp1pb1/bn2Qnp1/2qPN3/1p2P3/2N4p/PPPBBPPP/R3K2R", 1, 15, "-");
        for (int move : oracle(y).list()) {
            Oracle o = oracle(position("r3k2r/p1pp1pb1/bn2Qnp1/2qPN3/1p2P3/2N4p/PPPBBPPP/R3K2R", 1, 15, "-"));
            MoveList each = of(o);
            each.make(move);
            Due.answer(o + ": after " + move, oracle(each).toString(), o.behind(move).toString());
        }
    }

    @Sentence(in = "Promise 13", says = "how many LEGAL moves there are then.")
    static void makeAnswers() {
        MoveList x = game();
        Due.answer("e2e4", x.make(mv("e2e4")), 20);
        Due.answer("e7e5", x.make(mv("e7e5")), 29);
        Due.answer("count() then", x.count(), 29);
        Due.answer("mate", white("6k1/5ppp/8/8/8/8/8/R3K3").make(mv("a1a8")), 0);
        Due.answer("stale", white("k7/8/1K6/8/8/8/8/2Q5").make(mv("c1c7")), 0);
        Due.answer("one alone", white("7k/5K2/8/8/8/8/8/R7").make(mv("a1b1")), 1);
    }

    @Sentence(in = "Promise 13", says = "IllegalArgumentException if it is not LEGAL;")
    static void makeNotLegal() {
        int[] wrong = {0, -1, LEAST, MOST, mv("e2e5"), mv("e7e5"), mv("e1e2"), mv("e1g1"), mv("e3e4"), mv("e2e4") + 4096,
            mv("e2e4") + 4096 * 5, mv("e2e4") - 4096, mv("e2e4") + (1 << 15), mv("e2e4") + (1 << 31)};
        for (int move : wrong) {
            MoveList x = game();
            refused("make(" + move + ")", ARGUMENT, x, () -> x.make(move));
            Due.answer("a refused make can't be taken back", x.unmake(), NONE);
        }
        MoveList pinned = white("4r1k1/8/8/8/8/8/4N3/4K3");
        refused("a pinned knight", ARGUMENT, pinned, () -> pinned.make(mv("e2c3")));
        MoveList mate = black(MATE);
        refused("mate: make(-1)", ARGUMENT, mate, () -> mate.make(-1));
        refused("mate: g8f8", ARGUMENT, mate, () -> mate.make(mv("g8f8")));
        MoveList pawn = white("8/P7/8/8/8/8/k6K/8");
        refused("a7a8 that becomes nothing", ARGUMENT, pawn, () -> pawn.make(mv("a7a8")));
        refused("a7a8 that becomes a pawn", ARGUMENT, pawn, () -> pawn.make(mv("a7a8") + 4096));
        refused("a7a8 that becomes a king", ARGUMENT, pawn, () -> pawn.make(mv("a7a8") + 4096 * 6));
        MoveList twice = gameAfter("e2e4");
        refused("the same move again", ARGUMENT, twice, () -> twice.make(mv("e2e4")));
    }

    @Sentence(in = "Promise 13", says = "UnsupportedOperationException if 200 moves can be taken back.")
    static void makeAtTheLimit() {
        MoveList x = made(199);
        Due.answer("the 200th", x.make(mv(ROUND[3])), 20);
        refused("the 201st", UNSUPPORTED, x, () -> x.make(mv("g1f3")));
        refused("another 201st", UNSUPPORTED, x, () -> x.make(mv("e2e4")));
        // One taken back, one place free.
        Due.answer("unmake", x.unmake(), mv(ROUND[3]));
        Due.answer("the 200th again", x.make(mv(ROUND[3])), 20);
        Due.thrown("the 201st again", UNSUPPORTED, () -> x.make(mv("e2e4")));
        Due.answer("the 200th is taken back: it", x.unmake(), mv(ROUND[3]));
        // The questions look ahead, and need no place for it.
        MoveList full = made(200);
        Due.answer("at the limit: kind", full.kind(mv("e2e4")), 0);
        Due.answer("at the limit: lines(3)", full.lines(3), 8902);
        Due.answer("at the limit: lines(2)", full.lines(2), 400);
        looks("at the limit", full, 0, 15, NONE, 200);
        for (int n = 199; n >= 0; n--) {
            Due.answer("at the limit, asked: unmake " + n, full.unmake(), mv(ROUND[n % 4]));
        }
        // Where no move is legal there is none to refuse.
        MoveList mated = made(198);
        mated.unmake();
        mated.unmake();
        for (String move : new String[] {"f2f3", "e7e5", "g2g4", "d8h4"}) {
            mated.make(mv(move));
        }
        Due.answer("mated by the 200th: look(3)", mated.look(3), 200);
        Due.thrown("mated by the 200th: make", ARGUMENT, () -> mated.make(mv("e2e4")));
    }

    @Sentence(in = "Promise 14", says = "The latest move that was made (and was not taken back) is taken back: it;")
    static void unmake() {
        takenBack("1r2k2r/P7/8/8/8/8/8/R3K2R", 0, 7, "-", "a7b8q");
        takenBack("1r2k2r/P7/8/8/8/8/8/R3K2R", 0, 7, "-", "a7a8n");
        takenBack("4k3/8/8/3pP3/8/8/8/4K3", 0, 0, "d6", "e5d6");
        takenBack("4k3/8/8/8/3Pp3/8/8/4K3", 1, 0, "d3", "e4d3");
        takenBack("4k3/1pP5/8/8/8/8/8/K7", 0, 3, "b8", "c7b8r");
        takenBack(CASTLES, 0, 15, "-", "e1g1");
        takenBack(CASTLES, 0, 15, "a6", "e1c1");
        takenBack(CASTLES, 1, 15, "-", "e8g8");
        takenBack(CASTLES, 1, 15, "h8", "e8c8");
        takenBack(CASTLES, 0, 15, "-", "a1a8");
        takenBack(CASTLES, 1, 15, "-", "h8h1");
        takenBack("4k3/8/8/8/3p4/8/4P3/4K3", 0, 9, "a1", "e2e4");
        // One after another, with others made between.
        MoveList x = gameAfter("e2e4", "e7e5");
        Due.answer("the second", x.unmake(), mv("e7e5"));
        x.make(mv("d7d5"));
        Due.answer("another second", x.unmake(), mv("d7d5"));
        Due.answer("the first", x.unmake(), mv("e2e4"));
        Due.answer("none", x.unmake(), NONE);
        beginning("all taken back", x);
        // The list is that of before, asked at once.
        MoveList y = game();
        y.make(mv("e2e4"));
        y.unmake();
        Due.answer("the list of before: place", y.place(mv("e2e4")), 13);
        // Out of a mate too.
        MoveList mated = gameAfter("f2f3", "e7e5", "g2g4", "d8h4");
        Due.answer("mated: count()", mated.count(), 0);
        Due.answer("mated: unmake()", mated.unmake(), mv("d8h4"));
        Due.answer("then: count()", mated.count(), 30);
    }

    private static void takenBack(String board, int side, int rights, String passing, String move) {
        MoveList x = position(board, side, rights, passing);
        String before = picture(x);
        x.make(mv(move));
        Due.answer(board + ": unmake " + move, x.unmake(), mv(move));
        Due.answer(board + ": all, after unmake " + move, picture(x), before);
        Due.answer(board + ": nothing else is taken back", x.unmake(), NONE);
    }

    @Sentence(in = "Promise 14", says = "NONE if there is none.")
    static void unmakeNone() {
        MoveList x = new MoveList();
        Due.answer("new", x.unmake(), NONE);
        asAtFirst("new, and unmake", x);
        MoveList y = game();
        Due.answer("begun", y.unmake(), NONE);
        Due.answer("begun, again", y.unmake(), NONE);
        beginning("begun, and unmake", y);
        y.make(mv("e2e4"));
        y.unmake();
        Due.answer("all taken back", y.unmake(), NONE);
        beginning("all taken back, and unmake", y);
        MoveList z = position("4k3/8/8/8/8/8/8/4K3", 1, 7, "c4");
        Due.answer("set up", z.unmake(), NONE);
        looks("set up, and unmake", z, 1, 7, sq("c4"), 0);
    }

    @Sentence(in = "Promise 15", says = "The piece on a square;")
    static void at() {
        beginning("begun", game());
        MoveList x = new MoveList();
        x.put(0, 12);
        x.put(63, 1);
        Due.answer("at(0)", x.at(0), 12);
        Due.answer("at(63)", x.at(63), 1);
        Due.answer("at(1), none on it", x.at(1), 0);
    }

    @Sentence(in = "Promise 15", says = "NONE if there is none such.")
    static void atNone() {
        for (MoveList x : new MoveList[] {new MoveList(), game(), white("8/8/8/8/8/8/8/8")}) {
            for (int square : NO_SQUARES) {
                Due.answer("at(" + square + ")", x.at(square), NONE);
            }
        }
    }

    @Sentence(in = "Promise 18", says = "which 0: SIDE, 1: RIGHTS, 2: PASSING, 3: moves that can be taken back.")
    static void look() {
        MoveList x = position(KINGS, 1, 11, "h8");
        looks("set up", x, 1, 11, 63, 0);
        x.make(mv("e8e7"));
        looks("after a move", x, 0, 3, NONE, 1);
        x.make(mv("e1e2"));
        looks("after two", x, 1, 0, NONE, 2);
        x.unmake();
        looks("one taken back", x, 0, 3, NONE, 1);
        x.unmake();
        looks("both taken back", x, 1, 11, 63, 0);
        looks("at the limit", made(200), 0, 15, NONE, 200);
        looks("new", new MoveList(), 0, 0, NONE, 0);
    }

    @Sentence(in = "Promise 18", says = "NONE for any other which.")
    static void lookNone() {
        MoveList x = made(7);
        x.make(mv(ROUND[3]));
        for (int which : new int[] {-1, 4, -2, 5, 8, 16, 32, 64, 256, 257, 65536, 65539, -4, -256, LEAST, LEAST + 3, MOST}) {
            Due.answer("look(" + which + ")", x.look(which), NONE);
        }
    }
}
