import java.util.List;
import java.util.function.LongSupplier;

/** What is asked of a position that can be played: promises 7 to 12, with the term of counting. */
final class QuestionsTest extends Boards {
    /** Some that are no moves at all, or not of the position in which a game begins. */
    private static final int[] NOT_LEGAL = {0, -1, LEAST, MOST, mv("e2e5"), mv("e7e5"), mv("e1e2"), mv("a1a1"), mv("e3e4"),
        mv("e1g1"), mv("e2e4") + 4096, mv("e2e4") + 4096 * 5, mv("e2e4") + 4096 * 8, mv("e2e4") - 4096,
        mv("e2e4") + (1 << 20), mv("e2e4") + (1 << 31)};

    public static void main(String[] args) throws ReflectiveOperationException {
        Due.sentences(QuestionsTest.class);
    }

    @Sentence(in = "Promise 7", says = "How many moves the LIST has.")
    static void count() {
        Due.answer("a game begins: count()", game().count(), 20);
        Due.answer("mate: count()", black(MATE).count(), 0);
        Due.answer("stale: count()", black(STALE).count(), 0);
        Due.answer("one move alone: count()", white("8/8/8/8/8/8/5k1p/7K").count(), 1);
        Due.answer("the most that a game can bring: count()", white("R6R/3Q4/1Q4Q1/4Q3/2Q4Q/Q4Q2/pp1Q4/kBNN1KB1").count(), 218);
        Due.answer("promotions: count()", white("n1n1n1n1/PPPPPPPP/8/8/8/8/K7/7k").count(), 3 * 12 + 8 + 5);
        // A full board: the pawns shut one another in, and attack all but the first rank.
        String full = "PPPPPPPK/PPPPPPPP/PPPPPPPP/PPPPPPPP/PPPPPPPP/PPPPPPPP/PPPPPPPP/kPPPPPPP";
        Due.answer("a full board, white: count()", white(full).count(), 0);
        Due.answer("a full board, black: count()", black(full).count(), 1);
    }

    @Sentence(in = "Promise 7", says = "IllegalStateException if the position can not be PLAYED (as for all that follow).")
    static void notPlayed() {
        for (String board : NOT_PLAYED) {
            MoveList x = white(board);
            String before = picture(x);
            LongSupplier[] calls = {() -> x.count(), () -> x.move(0), () -> x.place(mv("e1e2")), () -> x.on(4, true),
                () -> x.on(4, false), () -> x.kind(mv("e1e2")), () -> x.lines(0), () -> x.lines(1), () -> x.lines(3),
                () -> x.make(mv("e1e2")), () -> x.check() ? 1 : 0, () -> x.pinned()};
            for (int i = 0; i < calls.length; i++) {
                Due.thrown(board + ", call " + i, STATE, calls[i]);
                Due.thrown(board + ", call " + i + " again", STATE, calls[i]);
            }
            Due.answer(board + ": all, after what threw", picture(x), before);
            // The face names no exception for these.
            Due.answer(board + ": at(4)", x.at(4), x.at(4));
            Due.answer(board + ": look(0)", x.look(0), 0);
            Due.answer(board + ": unmake()", x.unmake(), NONE);
        }
        // As soon as it can be played, or can not any more.
        MoveList x = white("4k3/8/8/8/4R3/8/8/4K3");
        Due.thrown("attacked: count()", STATE, x::count);
        x.state(1, 0, NONE);
        Due.answer("it is to move: count()", x.count(), 4);
        x.state(0, 0, NONE);
        Due.thrown("attacked again: count()", STATE, x::count);
        x.put(sq("e4"), 0);
        Due.answer("nothing attacks it: count()", x.count(), 5);
        x.put(sq("e1"), 0);
        Due.thrown("no king: count()", STATE, x::count);
        x.put(sq("a1"), 6);
        Due.answer("one again: count()", x.count(), 3);
        x.put(sq("h1"), 6);
        Due.thrown("two: count()", STATE, x::count);
    }

    @Sentence(in = "Promise 8", says = "Move i of the LIST.")
    static void move() {
        MoveList x = game();
        Due.answer("move(0)", x.move(0), mv("b1a3"));
        Due.answer("move(1)", x.move(1), mv("b1c3"));
        Due.answer("move(19)", x.move(19), mv("h2h4"));
        MoveList one = white("8/8/8/8/8/8/5k1p/7K");
        Due.answer("the only one: move(0)", one.move(0), mv("h1h2"));
        MoveList y = white(CASTLES.replace("r3k2r", "4k3"));
        List<Integer> list = oracle(y).list();
        for (int i = list.size() - 1; i >= 0; i--) {
            Due.answer("backwards: move(" + i + ")", y.move(i), list.get(i));
        }
    }

    @Sentence(in = "Promise 8", says = "IndexOutOfBoundsException if there is none.")
    static void noMove() {
        for (int i : new int[] {-1, 20, 21, 218, 256, 699, 700, 701, 5000, 65536, -20, LEAST, MOST}) {
            MoveList x = gameAfter("e2e4");
            refused("move(" + i + ")", INDEX, x, () -> x.move(i));
            Due.answer("a refused move(" + i + ") forgets nothing", x.unmake(), mv("e2e4"));
        }
        for (String board : new String[] {MATE, STALE}) {
            MoveList x = black(board);
            refused(board + ": move(0)", INDEX, x, () -> x.move(0));
            refused(board + ": move(-1)", INDEX, x, () -> x.move(-1));
        }
        // A list that was longer before: what is left of it is none.
        MoveList x = white("R6R/3Q4/1Q4Q1/4Q3/2Q4Q/Q4Q2/pp1Q4/kBNN1KB1");
        Due.answer("the last of 218: move(217)", x.move(217), 63 + 64 * 62);
        Due.thrown("move(218)", INDEX, () -> x.move(218));
        x.clear();
        setUp(x, KINGS);
        Due.answer("the last of five: move(4)", x.move(4), mv("e1f2"));
        Due.thrown("the sixth of five: move(5)", INDEX, () -> x.move(5));
        Due.thrown("move(217)", INDEX, () -> x.move(217));
    }

    @Sentence(in = "Promise 9", says = "The place of a move in the LIST;")
    static void place() {
        MoveList x = game();
        Due.answer("place of b1a3", x.place(mv("b1a3")), 0);
        Due.answer("place of h2h4", x.place(mv("h2h4")), 19);
        for (int i = 0; i < 20; i++) {
            Due.answer("place of move(" + i + ")", x.place(x.move(i)), i);
        }
        MoveList y = white("R6R/3Q4/1Q4Q1/4Q3/2Q4Q/Q4Q2/pp1Q4/kBNN1KB1");
        Due.answer("place of the last of 218", y.place(63 + 64 * 62), 217);
    }

    @Sentence(in = "Promise 9", says = "NONE if it is not LEGAL.")
    static void noPlace() {
        MoveList x = game();
        for (int move : NOT_LEGAL) {
            Due.answer("place(" + move + ")", x.place(move), NONE);
        }
        // It goes so, but leaves the king attacked.
        Due.answer("a pinned knight", white("4r1k1/8/8/8/8/8/4N3/4K3").place(mv("e2c3")), NONE);
        Due.answer("a king's step into attack", white("3r2k1/8/8/8/8/8/8/4K3").place(mv("e1d1")), NONE);
        Due.answer("mate", black(MATE).place(mv("g8f8")), NONE);
        Due.answer("mate: place(-1)", black(MATE).place(-1), NONE);
        // A move that was legal before another was made.
        MoveList y = gameAfter("e2e4");
        Due.answer("white's after white's", y.place(mv("d2d4")), NONE);
    }

    @Sentence(in = "Promise 10", says = "How many LEGAL moves come from a square (which true), or go to it;")
    static void on() {
        MoveList x = white("1r6/P7/8/8/8/8/k6K/8");
        Due.answer("from a7", x.on(sq("a7"), true), 8);
        Due.answer("to b8", x.on(sq("b8"), false), 4);
        Due.answer("to a8", x.on(sq("a8"), false), 4);
        Due.answer("from h2", x.on(sq("h2"), true), 5);
        Due.answer("to h2", x.on(sq("h2"), false), 0);
        Due.answer("from a2", x.on(sq("a2"), true), 0);
        Due.answer("to h1", x.on(sq("h1"), false), 1);
        MoveList y = position("4k3/8/8/8/8/8/8/R3K2R", 0, 3, "-");
        Due.answer("castling comes from e1", y.on(sq("e1"), true), 7);
        Due.answer("and goes to g1", y.on(sq("g1"), false), 2);
        Due.answer("from a1", white("4k3/8/8/8/8/8/8/R6K").on(0, true), 13);
        Due.answer("to a1", white("4k3/8/8/8/8/8/8/1R2K3").on(0, false), 1);
        Due.answer("from h8", white("7R/4k3/8/8/8/8/8/4K3").on(63, true), 14);
        Due.answer("to h8", white("8/4k3/7R/8/8/8/8/4K3").on(63, false), 1);
        Due.answer("a pinned one", white("4r1k1/8/8/8/8/8/4N3/4K3").on(sq("e2"), true), 0);
    }

    @Sentence(in = "Promise 10", says = "0 if there is none such.")
    static void onNoSquare() {
        MoveList y = game();
        for (int square : NO_SQUARES) {
            Due.answer("on(" + square + ", true)", y.on(square, true), 0);
            Due.answer("on(" + square + ", false)", y.on(square, false), 0);
        }
        for (int s = 0; s < 64; s++) {
            Due.answer("on(" + (s + 64) + ", true)", y.on(s + 64, true), 0);
            Due.answer("on(" + (s - 64) + ", true)", y.on(s - 64, true), 0);
            Due.answer("on(" + (s + 64) + ", false)", y.on(s + 64, false), 0);
            Due.answer("on(" + (s - 64) + ", false)", y.on(s - 64, false), 0);
        }
        Due.answer("mate: on(g8, true)", black(MATE).on(sq("g8"), true), 0);
        Due.answer("an empty square", y.on(sq("e4"), true), 0);
        Due.answer("the other side's", y.on(sq("e7"), true), 0);
    }

    @Sentence(in = "Promise 11", says = "What a LEGAL move does, as a sum:")
    static void kindIsASum() {
        kind("quiet", game(), "e2e4", 0);
        kind("takes and promotes", white("1r6/P7/8/8/8/7k/8/K7"), "a7b8b", 9);
        kind("takes, promotes, gives check", white("1r5k/P7/8/8/8/8/8/K7"), "a7b8q", 25);
        kind("takes, promotes, mates", white("1r5k/P5pp/8/8/8/8/8/K7"), "a7b8q", 57);
        kind("in passing and on the last rank", position("4k3/1pP5/8/8/8/8/8/K7", 0, 0, "b8"), "c7b8q", 27);
        kind("castling mates", position("2rkr3/2p1p3/8/8/8/8/8/R3K3", 0, 2, "-"), "e1c1", 52);
        MoveList x = position("r3k2r/p1ppqpb1/bn2pnp1/3PN3/1p2P3/2N2Q1p/PPPBBPPP/R3K2R", 0, 15, "-");
        Oracle o = oracle(x);
        String before = picture(x);
        for (int move : o.list()) {
            Due.answer(o + ": kind(" + move + ")", x.kind(move), o.kind(move));
        }
        Due.answer("all, after kind", picture(x), before);
    }

    private static void kind(String what, MoveList x, String move, int due) {
        int made = x.look(3);
        Due.answer(what + ": kind of " + move, x.kind(mv(move)), due);
        Due.answer(what + ": kind of " + move + " again", x.kind(mv(move)), due);
        Due.answer(what + ": no move is made by it", x.look(3), made);
    }

    @Sentence(in = "Promise 11", says = "1 it takes something,")
    static void kindTakes() {
        kind("a pawn takes", white("4k3/8/8/3p4/4P3/8/8/4K3"), "e4d5", 1);
        kind("a pawn goes on", white("4k3/8/8/3p4/4P3/8/8/4K3"), "e4e5", 0);
        kind("a king takes", white("4k3/8/8/8/8/8/3n4/4K3"), "e1d2", 1);
        kind("a rook takes a rook", white("r3k3/8/8/8/8/8/8/R3K3"), "a1a8", 17);
        kind("black takes on square 0", black("4k3/8/8/8/8/6K1/8/R2r4"), "d1a1", 1);
    }

    @Sentence(in = "Promise 11", says = "2 in passing,")
    static void kindInPassing() {
        kind("white", position("4k3/8/8/3pP3/8/8/8/4K3", 0, 0, "d6"), "e5d6", 3);
        kind("black", position("4k3/8/8/8/3Pp3/8/8/4K3", 1, 0, "d3"), "e4d3", 3);
        kind("opens a check", position("4k3/8/8/3pP3/8/8/4R3/4K3", 0, 0, "d6"), "e5d6", 19);
        kind("beside it, not in passing", position("4k3/8/5p2/3pP3/8/8/8/4K3", 0, 0, "d6"), "e5f6", 1);
        kind("on an odd rank", position("4k3/8/8/8/8/8/8/K1Pp4", 0, 0, "d2"), "c1d2", 3);
    }

    @Sentence(in = "Promise 11", says = "4 it castles,")
    static void kindCastles() {
        kind("white's king side", position("1k6/8/8/8/8/8/8/4K2R", 0, 1, "-"), "e1g1", 4);
        kind("white's queen side", position("1k6/8/8/8/8/8/8/R3K3", 0, 2, "-"), "e1c1", 4);
        kind("black's king side", position("4k2r/8/8/8/8/8/8/1K6", 1, 4, "-"), "e8g8", 4);
        kind("black's queen side", position("r3k3/8/8/8/8/8/8/1K6", 1, 8, "-"), "e8c8", 4);
        kind("gives check", position("5k2/8/8/8/8/8/8/4K2R", 0, 1, "-"), "e1g1", 20);
        kind("a king's step to the side", position("1k6/8/8/8/8/8/8/4K2R", 0, 1, "-"), "e1f1", 0);
        kind("a rook's two steps", position("1k6/8/8/8/8/8/8/4K2R", 0, 1, "-"), "h1f1", 0);
        kind("a queen's two steps from e1", white("1k6/8/8/8/8/8/8/K3Q3"), "e1g1", 0);
    }

    @Sentence(in = "Promise 11", says = "8 it promotes,")
    static void kindPromotes() {
        for (char becomes : "nbrq".toCharArray()) {
            kind("white", white("8/P7/8/8/8/k7/8/K7"), "a7a8" + becomes, becomes > 'n' ? 8 + 16 : 8);
            kind("black", black("7K/8/8/8/k7/8/6p1/8"), "g2g1" + becomes, 8);
        }
        kind("not yet on the last rank", white("8/8/P7/8/8/7k/8/K7"), "a6a7", 0);
        kind("a king on the last rank", white("8/K7/8/8/8/7k/8/8"), "a7a8", 0);
    }

    @Sentence(in = "Promise 11", says = "16 it gives check,")
    static void kindGivesCheck() {
        kind("a rook", white("4k3/8/8/8/8/8/8/R3K3"), "a1a8", 16);
        kind("opens a check", white("4k3/8/8/8/8/4N3/4R3/4K3"), "e3c4", 16);
        kind("a pawn", white("4k3/8/3P4/8/8/8/8/4K3"), "d6d7", 16);
        kind("a promoted rook", white("7k/P7/8/8/8/8/8/7K"), "a7a8r", 24);
        kind("a promoted knight does not", white("7k/P7/8/8/8/8/8/7K"), "a7a8n", 8);
        kind("the king itself opens one", white("4k3/8/8/8/8/8/4K3/4R3"), "e2d3", 16);
        kind("ends a check, gives none", white("4r1k1/8/8/8/8/8/8/4K3"), "e1d1", 0);
    }

    @Sentence(in = "Promise 11", says = "32 the other side has no LEGAL move then.")
    static void kindLeavesNone() {
        kind("mates", white("6k1/5ppp/8/8/8/8/8/R3K3"), "a1a8", 48);
        kind("stale", white("k7/8/1K6/8/8/8/8/2Q5"), "c1c7", 32);
        kind("takes and leaves none", white("k7/2p5/1K6/8/8/8/8/2Q5"), "c1c7", 33);
        kind("promotes to mate", white("7k/P5pp/8/8/8/8/8/K7"), "a7a8q", 56);
        kind("but for one that takes it", white("6k1/5ppp/8/8/7b/8/8/R3K3"), "e1f1", 0);
        kind("but for one in between", white("6k1/5ppp/8/8/7b/8/8/R2K4"), "a1a8", 16);
        kind("but for one in passing", white("7k/8/6Q1/8/2p5/2P5/1P6/4K3"), "b2b4", 0);
        kind("and not that either", white("7k/8/6Q1/8/2p5/1PP5/8/4K3"), "b3b4", 32);
    }

    @Sentence(in = "Promise 11", says = "IllegalArgumentException if it is not LEGAL.")
    static void noKind() {
        for (int move : NOT_LEGAL) {
            MoveList x = game();
            refused("kind(" + move + ")", ARGUMENT, x, () -> x.kind(move));
        }
        MoveList x = gameAfter("e2e4");
        refused("kind of a move that is made", ARGUMENT, x, () -> x.kind(mv("e2e4")));
        Due.answer("a refused kind forgets nothing", x.unmake(), mv("e2e4"));
        MoveList pinned = white("4r1k1/8/8/8/8/8/4N3/4K3");
        refused("kind of a pinned knight's move", ARGUMENT, pinned, () -> pinned.kind(mv("e2c3")));
        MoveList mate = black(MATE);
        refused("mate: kind(-1)", ARGUMENT, mate, () -> mate.kind(-1));
        MoveList pawn = white("8/P7/8/8/8/8/k6K/8");
        refused("kind of a7a8 that becomes nothing", ARGUMENT, pawn, () -> pawn.kind(mv("a7a8")));
        refused("kind of a7a8 that becomes a king", ARGUMENT, pawn, () -> pawn.kind(mv("a7a8") + 4096 * 6));
    }

    @Sentence(in = "Terms", says = "COUNTING to a depth d: 1 if d is 0;")
    static void linesOfNone() {
        Due.answer("a game begins: lines(0)", game().lines(0), 1);
        Due.answer("mate: lines(0)", black(MATE).lines(0), 1);
        Due.answer("stale: lines(0)", black(STALE).lines(0), 1);
    }

    @Sentence(in = "Terms", says = "otherwise the sum, over all LEGAL moves, of the count to d - 1 behind them.")
    static void linesAreASum() {
        for (int depth = 1; depth <= 3; depth++) {
            Due.answer("mate: lines(" + depth + ")", black(MATE).lines(depth), 0);
            Due.answer("stale: lines(" + depth + ")", black(STALE).lines(depth), 0);
            sumOfLines(position(CASTLES, 0, 15, "-"), depth);
            sumOfLines(white("n1n5/PPPk4/8/8/8/8/4Kppp/5N1N"), depth);
            sumOfLines(black("n1n5/PPPk4/8/8/8/8/4Kppp/5N1N"), depth);
            sumOfLines(position("8/2p5/3p4/KP5r/1R3pPk/8/4P3/8", 1, 0, "g3"), depth);
            // Lines that end early count for nothing.
            sumOfLines(white("6k1/5ppp/8/8/8/8/8/R3K3"), depth);
        }
    }

    private static void sumOfLines(MoveList x, int depth) {
        long sum = 0;
        int count = x.count();
        for (int i = 0; i < count; i++) {
            x.make(x.move(i));
            sum += x.lines(depth - 1);
            x.unmake();
        }
        Oracle o = oracle(x);
        Due.answer(o + ": lines(" + depth + ")", x.lines(depth), sum);
        Due.answer(o + ": lines(" + depth + "), the oracle's", sum, o.lines(depth));
    }

    @Sentence(in = "Promise 12", says = "COUNTING; depth 0 .. 3.")
    static void lines() {
        long[] due = {1, 20, 400, 8902};
        MoveList x = game();
        String before = picture(x);
        for (int depth = 3; depth >= 0; depth--) {
            Due.answer("a game begins: lines(" + depth + ")", x.lines(depth), due[depth]);
        }
        Due.answer("all, after lines", picture(x), before);
        MoveList y = gameAfter("e2e4");
        Due.answer("behind e2e4: lines(3)", y.lines(3), 13160);
        looks("behind e2e4, after lines", y, 1, 15, NONE, 1);
        Due.answer("behind e2e4, after lines: unmake()", y.unmake(), mv("e2e4"));
    }

    @Sentence(in = "Promise 12", says = "IllegalArgumentException if it is none of these.")
    static void noDepth() {
        for (int depth : new int[] {-1, 4, 5, -2, 256, 65536, LEAST, LEAST + 1, MOST}) {
            MoveList x = gameAfter("e2e4");
            refused("lines(" + depth + ")", ARGUMENT, x, () -> x.lines(depth));
            Due.answer("a refused lines forgets nothing", x.unmake(), mv("e2e4"));
            MoveList mate = black(MATE);
            refused("mate: lines(" + depth + ")", ARGUMENT, mate, () -> mate.lines(depth));
        }
    }
}
