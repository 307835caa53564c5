import java.util.function.LongSupplier;

/** The promises one by one: ordinary calls, the edges that the document names, wrong inputs. */
final class PromiseTest {
    private static final Class<?> STATE = IllegalStateException.class;
    private static final Class<?> ARGUMENT = IllegalArgumentException.class;
    private static final Class<?> INDEX = IndexOutOfBoundsException.class;
    private static final Class<?> UNSUPPORTED = UnsupportedOperationException.class;
    private static final int[] WRONG_SQUARES = {-1, 64, 65, 100, -64, Integer.MIN_VALUE, Integer.MAX_VALUE};

    public static void main(String[] args) {
        newObject();
        clear();
        begin();
        put();
        state();
        playable();
        countAndMove();
        place();
        on();
        kind();
        lines();
        makeState();
        makePassing();
        makeLimit();
        unmake();
        at();
        check();
        pinned();
        look();
        pawns();
        passing();
        castling();
        forgetting();
        unplayable();
        manyMoves();
        Due.finish();
    }

    private static int sq(String name) {
        return name.charAt(0) - 'a' + 8 * (name.charAt(1) - '1');
    }

    /** A move such as e2e4, or e7e8 with a last sign: n, b, r or q. */
    private static int mv(String name) {
        int kind = name.length() > 4 ? 2 + "nbrq".indexOf(name.charAt(4)) : 0;
        return sq(name.substring(0, 2)) + 64 * sq(name.substring(2, 4)) + 4096 * kind;
    }

    private static MoveList position(String board, int side, int rights, String passing) {
        MoveList x = new MoveList();
        LinesTest.setUp(x, board);
        x.state(side, rights, passing.equals("-") ? MoveList.NONE : sq(passing));
        return x;
    }

    private static MoveList game() {
        MoveList x = new MoveList();
        x.begin();
        return x;
    }

    private static void legal(MoveList x, String name, boolean due) {
        int place = x.place(mv(name));
        Due.answer(name + " is legal", place != MoveList.NONE, due);
        if (due && place != MoveList.NONE) {
            Due.answer(name + " is found at its place", x.move(place), mv(name));
        }
    }

    private static void empty(String what, MoveList x) {
        for (int s = 0; s < 64; s++) {
            Due.answer(what + " at(" + s + ")", x.at(s), 0);
        }
        looks(what, x, 0, 0, MoveList.NONE, 0);
        Due.answer(what + " playable()", x.playable(), false);
    }

    private static void looks(String what, MoveList x, int side, int rights, int passing, int made) {
        Due.answer(what + " look(0)", x.look(0), side);
        Due.answer(what + " look(1)", x.look(1), rights);
        Due.answer(what + " look(2)", x.look(2), passing);
        Due.answer(what + " look(3)", x.look(3), made);
    }

    private static void newObject() {
        Due.answer("NONE", MoveList.NONE, -1);
        empty("new", new MoveList());
        Due.answer("new unmake()", new MoveList().unmake(), -1);
        MoveList x = game();
        Due.answer("another object stays as it is", new MoveList().at(0), 0);
        Due.answer("one's own stays", x.at(0), 4);
    }

    private static void clear() {
        MoveList x = game();
        x.make(mv("e2e4"));
        x.state(1, 9, 20);
        x.clear();
        empty("cleared", x);
        x.begin();
        x.make(mv("e2e4"));
        x.clear();
        Due.answer("cleared unmake()", x.unmake(), -1);
        empty("cleared after a move", x);
    }

    private static void begin() {
        MoveList x = new MoveList();
        x.put(30, 5);
        x.state(1, 0, 40);
        x.begin();
        beginning("begun", x);
        x.make(mv("g1f3"));
        x.begin();
        beginning("begun anew", x);
        Due.answer("begun anew unmake()", x.unmake(), -1);
    }

    private static void beginning(String what, MoveList x) {
        int[] rank = {4, 2, 3, 5, 6, 3, 2, 4};
        for (int s = 0; s < 64; s++) {
            int due = 0;
            if (s < 8) {
                due = rank[s];
            } else if (s < 16) {
                due = 1;
            } else if (s >= 56) {
                due = rank[s - 56] + 6;
            } else if (s >= 48) {
                due = 7;
            }
            Due.answer(what + " at(" + s + ")", x.at(s), due);
        }
        looks(what, x, 0, 15, MoveList.NONE, 0);
        Due.answer(what + " count()", x.count(), 20);
    }

    private static void put() {
        MoveList x = new MoveList();
        for (int s = 0; s < 64; s++) {
            for (int p = 12; p >= 0; p--) {
                x.put(s, p);
                Due.answer("put(" + s + ", " + p + ") at", x.at(s), p);
            }
            x.put(s, s % 13);
        }
        for (int s = 0; s < 64; s++) {
            Due.answer("all put, at(" + s + ")", x.at(s), s % 13);
        }
        for (int wrong : WRONG_SQUARES) {
            Due.thrown("put(" + wrong + ", 1)", INDEX, () -> put(x, wrong, 1));
            Due.thrown("put(" + wrong + ", 13)", INDEX, () -> put(x, wrong, 13));
        }
        for (int wrong : new int[] {-1, 13, 14, Integer.MIN_VALUE, Integer.MAX_VALUE}) {
            Due.thrown("put(0, " + wrong + ")", ARGUMENT, () -> put(x, 0, wrong));
        }
        Due.answer("a refused put changes nothing", x.at(0), 0);
        MoveList y = position("4k3/8/8/8/8/8/8/4K3", 1, 9, "d3");
        y.put(sq("a8"), 11);
        looks("put leaves the state", y, 1, 9, sq("d3"), 0);
    }

    private static long put(MoveList x, int square, int piece) {
        x.put(square, piece);
        return 0;
    }

    private static long state(MoveList x, int side, int rights, int passing) {
        x.state(side, rights, passing);
        return 0;
    }

    private static void state() {
        MoveList x = new MoveList();
        for (int side = 0; side < 2; side++) {
            for (int rights = 0; rights < 16; rights++) {
                for (int passing = -1; passing < 64; passing++) {
                    x.state(side, rights, passing);
                    looks("state", x, side, rights, passing, 0);
                }
            }
        }
        for (int wrong : new int[] {-1, 2, 3, Integer.MIN_VALUE, Integer.MAX_VALUE}) {
            Due.thrown("side " + wrong, ARGUMENT, () -> state(x, wrong, 0, 0));
        }
        for (int wrong : new int[] {-1, 16, 17, Integer.MIN_VALUE, Integer.MAX_VALUE}) {
            Due.thrown("rights " + wrong, ARGUMENT, () -> state(x, 0, wrong, 0));
        }
        for (int wrong : new int[] {-2, 64, 65, Integer.MIN_VALUE, Integer.MAX_VALUE}) {
            Due.thrown("passing " + wrong, ARGUMENT, () -> state(x, 0, 0, wrong));
        }
        looks("a refused state changes nothing", x, 1, 15, 63, 0);
    }

    private static void playable() {
        playable("8/8/8/8/8/8/8/8", false, false);
        playable("8/8/8/8/8/8/8/4K3", false, false);
        playable("4k3/8/8/8/8/8/8/8", false, false);
        playable("4k3/8/8/8/8/8/8/4K3", true, true);
        playable("4k3/8/8/8/8/8/8/3KK3", false, false);
        playable("3kk3/8/8/8/8/8/8/4K3", false, false);
        playable("8/8/8/3k4/4K3/8/8/8", false, false);
        playable("4k3/8/8/8/4R3/8/8/4K3", false, true);
        playable("4k3/4p3/8/8/4R3/8/8/4K3", true, true);
        playable("4k3/8/8/8/1b6/8/8/4K3", true, false);
        playable("4k3/3P4/8/8/8/8/8/4K3", false, true);
        playable("4k3/3p4/8/8/8/8/8/4K3", true, true);
        playable("4k3/8/8/8/8/8/5p2/4K3", true, false);
        playable("4k3/8/3N4/8/8/8/8/4K3", false, true);
        // A pawn on the board's side does not attack round it.
        playable("8/8/k7/7P/8/8/8/4K3", true, true);
        playable("8/8/8/k6P/8/8/8/4K3", true, true);
    }

    private static void playable(String board, boolean white, boolean black) {
        Due.answer(board + " playable() for white", position(board, 0, 0, "-").playable(), white);
        Due.answer(board + " playable() for black", position(board, 1, 0, "-").playable(), black);
    }

    private static void countAndMove() {
        MoveList x = position("8/P7/8/8/8/8/k6K/1n6", 0, 0, "-");
        x.put(sq("b8"), 10);
        String[] due = {"h2g1", "h2h1", "h2g2", "h2g3", "h2h3", "a7a8n", "a7a8b", "a7a8r", "a7a8q",
            "a7b8n", "a7b8b", "a7b8r", "a7b8q"};
        Due.answer("count()", x.count(), due.length);
        for (int i = 0; i < due.length; i++) {
            Due.answer("move(" + i + ") is " + due[i], x.move(i), mv(due[i]));
        }
        for (int wrong : new int[] {-1, due.length, due.length + 1, 700, 5000, Integer.MIN_VALUE, Integer.MAX_VALUE}) {
            Due.thrown("move(" + wrong + ")", INDEX, () -> x.move(wrong));
        }
        // Of several checks all must end: only the king can do that.
        Due.answer("two knights: only the king moves", onlyTheKing("6k1/8/8/8/8/3n4/2n5/R3KB1R", 0), true);
        Due.answer("rook and knight: only the king moves", onlyTheKing("4r1k1/8/8/8/8/3n4/7R/4KB1R", 0), true);
        Due.answer("rook and bishop: only the king moves", onlyTheKing("4r1k1/8/8/8/7b/8/R6R/4KB2", 0), true);
        MoveList mate = position("R5k1/5ppp/8/8/8/8/8/4K3", 1, 0, "-");
        Due.answer("mate count()", mate.count(), 0);
        Due.thrown("mate move(0)", INDEX, () -> mate.move(0));
        Due.answer("a count is anew after put", countAfterPut(), 4);
    }

    private static boolean onlyTheKing(String board, int side) {
        MoveList x = position(board, side, 0, "-");
        for (int i = 0; i < x.count(); i++) {
            if (x.at(x.move(i) & 63) != 6 + 6 * side) {
                return false;
            }
        }
        return x.check();
    }

    private static int countAfterPut() {
        MoveList x = position("4k3/8/8/8/8/8/8/K7", 0, 0, "-");
        Due.answer("a lone king count()", x.count(), 3);
        x.put(sq("h2"), 1);
        Due.answer("and a pawn count()", x.count(), 5);
        x.put(sq("h4"), 7);
        return x.count();
    }

    private static void place() {
        MoveList x = game();
        Due.answer("place b1a3", x.place(mv("b1a3")), 0);
        Due.answer("place h2h4", x.place(mv("h2h4")), 19);
        int[] wrong = {0, -1, Integer.MIN_VALUE, Integer.MAX_VALUE, mv("e2e4") + 4096, mv("e2e4") + 4096 * 8,
            mv("e2e4") - 4096, mv("e2e5"), mv("e7e5"), mv("e1e2"), mv("a1a1"), mv("e3e4"), mv("e2e4") + (1 << 20),
            mv("e2e4") + (1 << 31)};
        for (int move : wrong) {
            Due.answer("place(" + move + ")", x.place(move), -1);
        }
        MoveList y = position("8/P7/8/8/8/8/k6K/8", 0, 0, "-");
        for (int kind = 0; kind < 16; kind++) {
            Due.answer("to the last rank, kind " + kind, y.place(mv("a7a8") + 4096 * kind) != -1, kind >= 2 && kind <= 5);
        }
    }

    private static void on() {
        MoveList x = position("1r6/P7/8/8/8/8/k6K/8", 0, 0, "-");
        Due.answer("on a7, from", x.on(sq("a7"), true), 8);
        Due.answer("on b8, to", x.on(sq("b8"), false), 4);
        Due.answer("on a8, to", x.on(sq("a8"), false), 4);
        Due.answer("on h2, from", x.on(sq("h2"), true), 5);
        Due.answer("on h2, to", x.on(sq("h2"), false), 0);
        Due.answer("on a2, from", x.on(sq("a2"), true), 0);
        for (int wrong : WRONG_SQUARES) {
            Due.answer("on(" + wrong + ", true)", x.on(wrong, true), 0);
            Due.answer("on(" + wrong + ", false)", x.on(wrong, false), 0);
        }
        MoveList y = position("4k3/8/8/8/8/8/8/R3K2R", 0, 3, "-");
        Due.answer("castling comes from e1", y.on(sq("e1"), true), 7);
        Due.answer("and goes to g1", y.on(sq("g1"), false), 2);
    }

    private static void kind(String what, MoveList x, String move, int due) {
        Due.answer(what + ": kind of " + move, x.kind(mv(move)), due);
    }

    private static void kind() {
        kind("quiet", game(), "e2e4", 0);
        kind("takes", position("4k3/8/8/3p4/4P3/8/8/4K3", 0, 0, "-"), "e4d5", 1);
        kind("in passing", position("4k3/8/8/3pP3/8/8/8/4K3", 0, 0, "d6"), "e5d6", 3);
        kind("black in passing", position("4k3/8/8/8/3Pp3/8/8/4K3", 1, 0, "d3"), "e4d3", 3);
        kind("castles", position("4k3/8/8/8/8/8/8/4K2R", 0, 1, "-"), "e1g1", 4);
        kind("castles the long way", position("4k3/8/8/8/8/8/8/R3K3", 0, 2, "-"), "e1c1", 4);
        kind("castling gives check", position("5k2/8/8/8/8/8/8/4K2R", 0, 1, "-"), "e1g1", 20);
        kind("castling mates", position("2rkr3/2p1p3/8/8/8/8/8/R3K3", 0, 2, "-"), "e1c1", 52);
        kind("a king's step to the side", position("4k3/8/8/8/8/8/8/4K2R", 0, 1, "-"), "e1f1", 0);
        kind("promotes", position("8/P7/8/8/8/7k/8/K7", 0, 0, "-"), "a7a8n", 8);
        kind("promotes with check", position("8/P7/8/8/8/7k/8/7K", 0, 0, "-"), "a7a8q", 8);
        kind("promotes with check", position("7k/P7/8/8/8/8/8/7K", 0, 0, "-"), "a7a8r", 24);
        kind("takes and promotes", position("1r6/P7/8/8/8/7k/8/K7", 0, 0, "-"), "a7b8b", 9);
        kind("gives check", position("4k3/8/8/8/8/8/8/R3K3", 0, 0, "-"), "a1a8", 16);
        kind("opens a check", position("4k3/8/8/8/8/4N3/4R3/4K3", 0, 0, "-"), "e3c4", 16);
        kind("mates", position("6k1/5ppp/8/8/8/8/8/R3K3", 0, 0, "-"), "a1a8", 48);
        kind("stale", position("k7/8/1K6/8/8/8/8/2Q5", 0, 0, "-"), "c1c7", 32);
        kind("takes and leaves none", position("k7/2p5/1K6/8/8/8/8/2Q5", 0, 0, "-"), "c1c7", 33);
        kind("promotes to mate", position("7k/P5pp/8/8/8/8/8/K7", 0, 0, "-"), "a7a8q", 56);
        kind("in passing and on the last rank", position("4k3/1pP5/8/8/8/8/8/K7", 0, 0, "b8"), "c7b8q", 27);
        kind("in passing opens a check", position("4k3/8/8/3pP3/8/8/4R3/4K3", 0, 0, "d6"), "e5d6", 19);
        MoveList x = game();
        for (int wrong : new int[] {0, -1, mv("e2e5"), mv("e7e5"), mv("e2e4") + 4096, Integer.MAX_VALUE, Integer.MIN_VALUE}) {
            Due.thrown("kind(" + wrong + ")", ARGUMENT, () -> x.kind(wrong));
        }
        beginning("kind changes nothing", x);
    }

    private static void lines() {
        MoveList x = game();
        x.make(mv("e2e4"));
        for (int wrong : new int[] {-1, 4, 5, Integer.MIN_VALUE, Integer.MAX_VALUE}) {
            Due.thrown("lines(" + wrong + ")", ARGUMENT, () -> x.lines(wrong));
        }
        Due.answer("lines(3) behind e2e4", x.lines(3), 13160);
        looks("lines changes nothing", x, 1, 15, MoveList.NONE, 1);
        Due.answer("lines(0)", x.lines(0), 1);
        MoveList mate = position("R5k1/5ppp/8/8/8/8/8/4K3", 1, 0, "-");
        Due.answer("mate lines(0)", mate.lines(0), 1);
        for (int depth = 1; depth <= 3; depth++) {
            Due.answer("mate lines(" + depth + ")", mate.lines(depth), 0);
        }
    }

    private static void makeState() {
        MoveList x = position("r3k2r/8/8/8/8/8/8/R3K2R", 0, 15, "-");
        rightsAfter(x, "e1e2", 12);
        rightsAfter(x, "e1g1", 12);
        rightsAfter(x, "e1c1", 12);
        rightsAfter(x, "h1h2", 14);
        rightsAfter(x, "a1a2", 13);
        rightsAfter(x, "a1a8", 15 - 2 - 8);
        rightsAfter(x, "h1h8", 15 - 1 - 4);
        x.state(1, 15, MoveList.NONE);
        rightsAfter(x, "e8d8", 3);
        rightsAfter(x, "e8g8", 3);
        rightsAfter(x, "e8c8", 3);
        rightsAfter(x, "h8g8", 11);
        rightsAfter(x, "a8b8", 7);
        rightsAfter(x, "a8a1", 15 - 2 - 8);
        // Rights are there though no rook and no king are at home, and go all the same.
        MoveList y = position("8/8/3k4/8/8/3K4/8/N6b", 0, 15, "-");
        rightsAfter(y, "a1b3", 13);
        rightsAfter(y, "d3c3", 12);
        y.state(1, 15, MoveList.NONE);
        rightsAfter(y, "h1g2", 14);
        rightsAfter(y, "h1a8", 15 - 1 - 8);
        castled("e1g1", 0, "f1", 4, "g1", 6);
        castled("e1c1", 0, "d1", 4, "c1", 6);
        castled("e8g8", 1, "f8", 10, "g8", 12);
        castled("e8c8", 1, "d8", 10, "c8", 12);
        MoveList z = position("4k3/8/8/3pP3/8/8/8/4K3", 0, 0, "d6");
        z.make(mv("e5d6"));
        Due.answer("taken in passing: d5", z.at(sq("d5")), 0);
        Due.answer("taken in passing: d6", z.at(sq("d6")), 1);
        Due.answer("taken in passing: e5", z.at(sq("e5")), 0);
        MoveList p = position("4k3/8/8/8/8/8/p7/4K3", 1, 0, "-");
        p.make(mv("a2a1n"));
        Due.answer("a black pawn becomes a black knight", p.at(sq("a1")), 8);
        MoveList g = game();
        Due.thrown("make(e2e5)", ARGUMENT, () -> g.make(mv("e2e5")));
        Due.thrown("make(-1)", ARGUMENT, () -> g.make(-1));
        beginning("a refused make changes nothing", g);
    }

    private static void rightsAfter(MoveList x, String move, int due) {
        int before = x.look(1);
        x.make(mv(move));
        Due.answer("rights after " + move, x.look(1), due);
        Due.answer("unmake " + move, x.unmake(), mv(move));
        Due.answer("rights after " + move + " was taken back", x.look(1), before);
    }

    private static void castled(String move, int side, String rook, int rookPiece, String king, int kingPiece) {
        MoveList x = position("r3k2r/8/8/8/8/8/8/R3K2R", side, 15, "-");
        x.make(mv(move));
        int pieces = 0;
        for (int s = 0; s < 64; s++) {
            pieces += x.at(s) != 0 ? 1 : 0;
        }
        Due.answer(move + " pieces", pieces, 6);
        Due.answer(move + " rook", x.at(sq(rook)), rookPiece);
        Due.answer(move + " king", x.at(sq(king)), kingPiece);
        Due.answer(move + " the king's square", x.at(sq(side == 0 ? "e1" : "e8")), 0);
        x.unmake();
        Due.answer(move + " taken back: rook", x.at(sq(rook)), 0);
        Due.answer(move + " taken back: king", x.at(sq(side == 0 ? "e1" : "e8")), kingPiece);
        Due.answer(move + " taken back: corner", x.at(sq((move.charAt(2) == 'g' ? "h" : "a") + (side == 0 ? "1" : "8"))), rookPiece);
    }

    private static void makePassing() {
        passingAfter("4k3/8/8/8/3p4/8/4P3/4K3", 0, "e2e4", "e3");
        passingAfter("4k3/8/8/8/5p2/8/4P3/4K3", 0, "e2e4", "e3");
        passingAfter("4k3/8/8/8/8/3p4/4P3/4K3", 0, "e2e4", "-");
        passingAfter("4k3/8/8/8/3p4/8/4P3/4K3", 0, "e2e3", "-");
        passingAfter("4k3/8/8/8/7p/8/P7/4K3", 0, "a2a4", "-");
        passingAfter("4k3/8/8/7p/8/8/P7/4K3", 0, "a2a4", "-");
        passingAfter("4k3/8/8/8/3P4/8/4P3/4K3", 0, "e2e4", "-");
        passingAfter("4k3/4p3/8/3P4/8/8/8/4K3", 1, "e7e5", "e6");
        passingAfter("4k3/4p3/8/8/3P4/8/8/4K3", 1, "e7e5", "-");
        // The pawn that attacks may not move, and the square is passing all the same.
        passingAfter("3k4/8/8/8/3p4/8/4P3/3RK3", 0, "e2e4", "e3");
        // A rook or king that goes two ranks passes nothing.
        passingAfter("7k/8/8/8/3p4/8/4R3/4K3", 0, "e2e4", "-");
        MoveList x = position("4k3/8/8/8/3p4/8/4P3/4K3", 0, 0, "-");
        x.make(mv("e2e4"));
        x.make(mv("e8e7"));
        Due.answer("passing lasts for a move", x.look(2), -1);
        x.unmake();
        Due.answer("and is there again when it is taken back", x.look(2), sq("e3"));
    }

    private static void passingAfter(String board, int side, String move, String due) {
        MoveList x = position(board, side, 0, "-");
        x.make(mv(move));
        Due.answer(board + " passing after " + move, x.look(2), due.equals("-") ? -1 : sq(due));
        Due.answer(board + " side after " + move, x.look(0), 1 - side);
    }

    private static void makeLimit() {
        MoveList x = game();
        String[] round = {"g1f3", "g8f6", "f3g1", "f6g8"};
        for (int n = 0; n < 200; n++) {
            Due.answer("look(3)", x.look(3), n);
            Due.answer("make " + n, x.make(mv(round[n % 4])), n % 4 == 1 || n % 4 == 2 ? 22 : 20);
        }
        Due.answer("200 can be taken back", x.look(3), 200);
        Due.thrown("make of the 201st", UNSUPPORTED, () -> x.make(mv("g1f3")));
        Due.thrown("make of a wrong 201st", ARGUMENT, () -> x.make(mv("g1g3")));
        Due.answer("still 200", x.look(3), 200);
        Due.answer("kind works at the limit", x.kind(mv("e2e4")), 0);
        Due.answer("lines works at the limit", x.lines(3), 8902);
        looks("at the limit", x, 0, 15, MoveList.NONE, 200);
        for (int n = 199; n >= 0; n--) {
            Due.answer("unmake " + n, x.unmake(), mv(round[n % 4]));
            if (n == 199) {
                Due.answer("a place is free again", x.make(mv(round[3])), 20);
                x.unmake();
            }
        }
        Due.answer("no more to unmake", x.unmake(), -1);
        beginning("all taken back", x);
    }

    private static void unmake() {
        MoveList x = position("1r2k2r/P7/8/8/8/8/8/R3K2R", 0, 7, "-");
        x.make(mv("a7b8q"));
        Due.answer("unmake", x.unmake(), mv("a7b8q"));
        Due.answer("the pawn is back", x.at(sq("a7")), 1);
        Due.answer("what was taken is back", x.at(sq("b8")), 10);
        looks("taken back", x, 0, 7, MoveList.NONE, 0);
        Due.answer("unmake", x.unmake(), -1);
        looks("nothing to take back", x, 0, 7, MoveList.NONE, 0);
        MoveList y = position("4k3/8/8/3pP3/8/8/8/4K3", 0, 0, "d6");
        y.make(mv("e5d6"));
        Due.answer("unmake in passing", y.unmake(), mv("e5d6"));
        Due.answer("in passing back: d5", y.at(sq("d5")), 7);
        Due.answer("in passing back: d6", y.at(sq("d6")), 0);
        Due.answer("in passing back: e5", y.at(sq("e5")), 1);
        Due.answer("in passing back: passing", y.look(2), sq("d6"));
        Due.answer("the list is that of before", y.place(mv("e5d6")) != -1, true);
    }

    private static void at() {
        MoveList x = game();
        for (int wrong : WRONG_SQUARES) {
            Due.answer("at(" + wrong + ")", x.at(wrong), -1);
        }
        Due.answer("at e8", x.at(60), 12);
        Due.answer("at e4", x.at(28), 0);
    }

    private static void check() {
        Due.answer("no check", game().check(), false);
        Due.answer("a rook's", position("4k3/8/8/8/4r3/8/8/4K3", 0, 0, "-").check(), true);
        Due.answer("a rook's, shut", position("4k3/8/8/8/4r3/4P3/8/4K3", 0, 0, "-").check(), false);
        Due.answer("a pawn's", position("4k3/8/8/8/8/8/3p4/4K3", 0, 0, "-").check(), true);
        Due.answer("a pawn's from behind", position("4k3/8/8/8/3K4/4p3/8/8", 0, 0, "-").check(), false);
        Due.answer("a white pawn's", position("4k3/3P4/8/8/8/8/8/4K3", 1, 0, "-").check(), true);
        Due.answer("a white pawn's from a1", position("8/8/8/8/8/7K/1k6/P7", 1, 0, "-").check(), true);
        Due.answer("a black pawn's from h8", position("7p/6K1/8/8/8/8/1k6/8", 0, 0, "-").check(), true);
        Due.answer("a knight's", position("4k3/8/8/8/8/3n4/8/4K3", 0, 0, "-").check(), true);
        Due.answer("a bishop's", position("4k3/8/8/8/7b/8/8/4K3", 0, 0, "-").check(), true);
        Due.answer("a queen's", position("4k3/8/8/8/8/8/8/q3K3", 0, 0, "-").check(), true);
    }

    private static void pinned() {
        pinned("4k3/8/8/8/4r3/8/4N3/4K3", 0, "e2");
        pinned("4k3/8/8/8/4b3/8/4N3/4K3", 0, "");
        pinned("4k3/8/8/8/4r3/4N3/4N3/4K3", 0, "");
        pinned("4k3/8/8/8/4r3/4n3/4N3/4K3", 0, "");
        pinned("4k3/8/8/8/4r3/4n3/8/4K3", 0, "");
        pinned("4k3/8/8/8/7b/8/5P2/4K3", 0, "f2");
        pinned("4k3/8/8/8/7r/8/5P2/4K3", 0, "");
        pinned("k7/8/8/8/8/8/8/qB2K3", 0, "b1");
        // In check, and pinned by another one.
        pinned("4k3/8/8/8/4r2b/8/5P2/4K3", 0, "f2");
        pinned("4k3/4q3/8/8/8/8/8/4R1K1", 1, "e7");
        // Eight at once.
        pinned("q2r2qk/1P3P2/3R4/r1PKP2r/8/1P1P1P2/q2r2q1/8", 0, "b7 f7 d6 c5 e5 b3 d3 f3");
        pinned("7K/8/8/8/8/8/8/k7", 0, "");
        pinned("q5NK/8/8/8/8/8/8/k7", 0, "g8");
        pinned("q5KN/8/8/8/8/8/8/k7", 0, "");
        pinned("q4K1N/8/8/8/8/8/8/k7", 0, "");
        pinned("1k5q/6N1/5K2/8/8/8/8/8", 0, "g7");
    }

    private static void pinned(String board, int side, String squares) {
        long due = 0;
        for (int i = 0; i + 1 < squares.length(); i += 3) {
            due |= 1L << sq(squares.substring(i, i + 2));
        }
        Due.answer(board + " pinned()", position(board, side, 0, "-").pinned(), due);
    }

    private static void look() {
        MoveList x = position("4k3/8/8/8/8/8/8/4K3", 1, 11, "h8");
        looks("look", x, 1, 11, 63, 0);
        for (int wrong : new int[] {-1, 4, 5, Integer.MIN_VALUE, Integer.MAX_VALUE}) {
            Due.answer("look(" + wrong + ")", x.look(wrong), -1);
        }
        x.make(mv("e8e7"));
        looks("look after a move", x, 0, 3, -1, 1);
    }

    private static void pawns() {
        MoveList x = position("4k2P/8/8/8/1p6/P1p4p/P1P4P/P3K3", 0, 0, "-");
        legal(x, "a3a4", true);
        legal(x, "a3a5", false);
        legal(x, "a3b4", true);
        legal(x, "a2a4", false);
        legal(x, "c2c3", false);
        legal(x, "c2c4", false);
        legal(x, "h2h3", false);
        legal(x, "h2h4", false);
        legal(x, "a1a2", false);
        Due.answer("a white pawn on rank 8 stays", x.on(sq("h8"), true), 0);
        MoveList y = position("p3k3/8/8/8/8/8/8/P3K2p", 0, 0, "-");
        legal(y, "a1a2", true);
        legal(y, "a1a3", false);
        y.state(1, 0, MoveList.NONE);
        legal(y, "a8a7", true);
        legal(y, "a8a6", false);
        Due.answer("a black pawn on rank 1 stays", y.on(sq("h1"), true), 0);
        MoveList z = position("4k3/p1p5/1P6/2P5/8/8/8/4K3", 1, 0, "-");
        legal(z, "a7a5", true);
        legal(z, "a7a6", true);
        legal(z, "a7b6", true);
        legal(z, "c7b6", true);
        legal(z, "c7c6", true);
        legal(z, "c7c5", false);
    }

    private static void passing() {
        legal(position("4k3/8/8/3pP3/8/8/8/4K3", 0, 0, "d6"), "e5d6", true);
        legal(position("4k3/8/8/3pP3/8/8/8/4K3", 0, 0, "-"), "e5d6", false);
        legal(position("4k3/8/8/4P3/8/8/8/4K3", 0, 0, "d6"), "e5d6", false);
        legal(position("4k3/8/8/3nP3/8/8/8/4K3", 0, 0, "d6"), "e5d6", false);
        legal(position("4k3/8/8/3PP3/8/8/8/4K3", 0, 0, "d6"), "e5d6", false);
        legal(position("4k3/8/3N4/3pP3/8/8/8/3K4", 1, 0, "d6"), "e5d6", false);
        // A piece on PASSING is taken as ever, and the pawn behind it stays.
        MoveList taken = position("4k3/8/3n4/3pP3/8/8/8/4K3", 0, 0, "d6");
        Due.answer("kind of taking a piece on PASSING", taken.kind(mv("e5d6")), 1);
        taken.make(mv("e5d6"));
        Due.answer("the pawn behind stays", taken.at(sq("d5")), 7);
        // Only pawns take in passing.
        MoveList knight = position("4k3/8/8/3p4/1N6/4K3/8/8", 0, 0, "d6");
        knight.put(sq("b5"), 2);
        Due.answer("a knight goes to PASSING", knight.kind(mv("b5d6")), 16);
        // Both leave the rank at once.
        legal(position("8/8/8/K2pP2r/8/8/8/4k3", 0, 0, "d6"), "e5d6", false);
        legal(position("8/8/8/K2pP2b/8/8/8/4k3", 0, 0, "d6"), "e5d6", true);
        // The pawn that gives check is taken.
        legal(position("4k3/8/8/3pP3/4K3/8/8/8", 0, 0, "d6"), "e5d6", true);
        legal(position("4k3/8/8/3pP3/2K5/8/8/8", 0, 0, "d6"), "e5d6", true);
        legal(position("4k3/8/8/3pP3/2K4r/8/8/8", 0, 0, "d6"), "e5d6", false);
        // It comes between, or leaves a pin's line, or stays on it.
        legal(position("3r4/8/8/3pP3/8/3K4/8/k7", 0, 0, "d6"), "e5d6", true);
        legal(position("4r3/8/8/3pP3/8/4K3/8/k7", 0, 0, "d6"), "e5d6", false);
        legal(position("8/2b5/8/3pP3/5K2/8/8/k7", 0, 0, "d6"), "e5d6", true);
        // What stood behind the pawn that is taken.
        legal(position("8/5b2/8/3pP3/2K5/8/8/k7", 0, 0, "d6"), "e5d6", false);
        // On ranks where no pawn has gone two.
        MoveList low = position("4k3/8/8/8/8/8/8/K1Pp4", 0, 0, "d2");
        Due.answer("in passing on rank 2", low.kind(mv("c1d2")), 3);
        MoveList last = position("k7/1pP5/8/8/8/8/8/K7", 0, 0, "b8");
        Due.answer("in passing to the last rank", last.on(sq("c7"), true), 8);
        last.make(mv("c7b8n"));
        Due.answer("it became a knight", last.at(sq("b8")), 2);
        Due.answer("the pawn is gone", last.at(sq("b7")), 0);
        last.unmake();
        Due.answer("the pawn is back", last.at(sq("b7")), 7);
        Due.answer("so is the other one", last.at(sq("c7")), 1);
        // Over the board's side there is no taking.
        legal(position("4k3/8/8/p6P/8/8/8/4K3", 0, 0, "a6"), "h5a6", false);
        legal(position("4k3/8/8/p6P/8/8/8/4K3", 0, 0, "a7"), "h5a7", false);
    }

    private static void castling() {
        String open = "r3k2r/8/8/8/8/8/8/R3K2R";
        for (int rights = 0; rights < 16; rights++) {
            castlings(open, rights, (rights & 1) != 0, (rights & 2) != 0, (rights & 4) != 0, (rights & 8) != 0);
        }
        castlings("r3k2r/8/8/8/8/8/8/R3KB1R", 3, false, true, false, false);
        castlings("r3k2r/8/8/8/8/8/8/R3K1NR", 3, false, true, false, false);
        castlings("r3k2r/8/8/8/8/8/8/RN2K2R", 3, true, false, false, false);
        castlings("r3k2r/8/8/8/8/8/8/R1b1K2R", 3, true, false, false, false);
        castlings("r3k2r/8/8/8/8/8/8/R2QK2R", 3, true, false, false, false);
        castlings("4k3/8/8/8/8/8/8/B3K2r", 3, false, false, false, false);
        castlings("4k3/8/8/8/8/8/8/4K3", 3, false, false, false, false);
        castlings("4k3/8/8/8/8/8/8/R2K3R", 3, false, false, false, false);
        castlings("R3K2R/8/8/8/8/8/8/4k3", 15, false, false, false, false);
        castlings("1r2k3/8/8/8/8/8/8/R3K2R", 3, true, true, false, false);
        castlings("2r1k3/8/8/8/8/8/8/R3K2R", 3, true, false, false, false);
        castlings("3rk3/8/8/8/8/8/8/R3K2R", 3, true, false, false, false);
        castlings("r7/4r2k/8/8/8/8/8/R3K2R", 3, false, false, false, false);
        castlings("4kr2/8/8/8/8/8/8/R3K2R", 3, false, true, false, false);
        castlings("4k1r1/8/8/8/8/8/8/R3K2R", 3, false, true, false, false);
        castlings("4k2r/8/8/8/8/8/8/R3K2R", 3, true, true, false, false);
        castlings("4k3/8/8/8/8/8/6p1/R3K2R", 3, false, true, false, false);
        castlings("r3k2r/8/8/8/8/8/8/1R1K4", 12, false, false, true, true);
        castlings("r3k2r/4P3/8/8/8/8/8/3K4", 12, false, false, false, false);
        castlings("r3k2r/P7/8/8/8/8/8/3K4", 12, false, false, true, true);
        castlings("r3k2r/1P6/8/8/8/8/8/3K4", 12, false, false, true, false);
        castlings("r3k2r/7P/8/8/8/8/8/3K4", 12, false, false, false, true);
        castlings("r2Nk2r/8/8/8/8/8/8/3K4", 12, false, false, true, false);
    }

    private static void castlings(String board, int rights, boolean e1g1, boolean e1c1, boolean e8g8, boolean e8c8) {
        MoveList white = position(board, 0, rights, "-");
        if (white.playable()) {
            legalCastling(board, white, "e1g1", e1g1);
            legalCastling(board, white, "e1c1", e1c1);
        }
        MoveList black = position(board, 1, rights, "-");
        if (black.playable()) {
            legalCastling(board, black, "e8g8", e8g8);
            legalCastling(board, black, "e8c8", e8c8);
        }
    }

    private static void legalCastling(String board, MoveList x, String move, boolean due) {
        Due.answer(board + " castling " + move, x.place(mv(move)) != -1 && (x.kind(mv(move)) & 4) != 0, due);
    }

    private static void forgetting() {
        MoveList x = game();
        x.make(mv("e2e4"));
        Due.thrown("put(64, 0)", INDEX, () -> put(x, 64, 0));
        Due.thrown("put(0, 13)", ARGUMENT, () -> put(x, 0, 13));
        Due.thrown("state(2, 0, 0)", ARGUMENT, () -> state(x, 2, 0, 0));
        Due.answer("what throws forgets nothing", x.look(3), 1);
        x.put(40, 0);
        Due.answer("put forgets the moves, though it changes nothing", x.look(3), 0);
        Due.answer("unmake then", x.unmake(), -1);
        x.make(mv("e7e5"));
        x.state(x.look(0), x.look(1), x.look(2));
        Due.answer("so does state", x.look(3), 0);
        x.make(mv("g1f3"));
        x.make(mv("b8c6"));
        x.unmake();
        Due.answer("unmake leaves the one before", x.look(3), 1);
        x.begin();
        Due.answer("so does begin", x.look(3), 0);
    }

    private static void unplayable() {
        MoveList x = position("4k3/8/8/8/4R3/8/8/4K3", 0, 0, "-");
        LongSupplier[] calls = {() -> x.count(), () -> x.move(0), () -> x.move(-1), () -> x.place(0), () -> x.on(0, true),
            () -> x.on(64, false), () -> x.kind(0), () -> x.lines(0), () -> x.lines(4), () -> x.make(0),
            () -> x.check() ? 1 : 0, () -> x.pinned()};
        for (int i = 0; i < calls.length; i++) {
            Due.thrown("unplayable, call " + i, STATE, calls[i]);
        }
        Due.answer("unplayable at", x.at(sq("e4")), 4);
        Due.answer("unplayable unmake", x.unmake(), -1);
        looks("unplayable", x, 0, 0, -1, 0);
    }

    /** More moves than a game can bring: the rows must hold them all. */
    private static void manyMoves() {
        String[] boards = {
            "QQQQQQQQ/Q6Q/Q6Q/Q6Q/Q6Q/Q6Q/Q5PP/QQQQQKpk", "Q1Q1Q1Q1/8/1Q1Q1Q1Q/8/Q1Q1Q1Q1/8/1Q1Q1QPP/K4Ppk",
            "n1n1n1n1/PPPPPPPP/8/8/8/8/K7/7k", "QNQNQNQN/8/NQNQNQNQ/8/QNQNQN2/6PP/5PPp/K5pk"};
        for (String board : boards) {
            MoveList x = position(board, 0, 0, "-");
            Oracle o = new Oracle();
            for (int s = 0; s < 64; s++) {
                o.board[s] = x.at(s);
            }
            if (o.playable()) {
                Due.answer(board + " count()", x.count(), o.list().size());
                Due.answer(board + " last move", x.move(x.count() - 1), o.list().get(o.list().size() - 1));
            } else {
                Due.answer(board + " should be playable", false, true);
            }
        }
    }
}
