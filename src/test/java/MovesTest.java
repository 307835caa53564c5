import java.util.List;

/** How pieces go, and which moves are legal: the terms of a move, and the order of the list. */
final class MovesTest extends Boards {
    public static void main(String[] args) throws ReflectiveOperationException {
        Due.sentences(MovesTest.class);
    }

    @Sentence(in = "Terms", says = "A MOVE is from + 64 * to + 4096 * kind;")
    static void moveNumbers() {
        legal("from 0 to 1", white("4k3/8/8/8/8/8/8/R3K3"), 64, true);
        legal("from 1 to 0", white("4k3/8/8/8/8/8/8/1R2K3"), 1, true);
        legal("from 0 to 56", white("4k3/8/8/8/8/8/8/R3K3"), 64 * 56, true);
        legal("from 63 to 62", black("4k2r/8/8/8/8/8/8/4K3"), 63 + 64 * 62, true);
        legal("from 62 to 63", black("4k1r1/8/8/8/8/8/8/4K3"), 62 + 64 * 63, true);
        legal("from 55 to 63, a queen", white("4k3/7P/8/8/8/8/8/4K3"), 55 + 64 * 63 + 4096 * 5, true);
        legal("from 8 to 0, a knight", black("4k3/8/8/8/8/8/p7/4K3"), 8 + 4096 * 2, true);
        // No other number is one of these moves, whatever a mask would make of it.
        everyNumber("r3k2r/6P1/8/3pP3/8/8/8/R3K2R", 0, 15, "d6");
        everyNumber("r3k2r/8/8/8/3Pp3/8/1p6/R3K2R", 1, 15, "d3");
        everyNumber(MATE, 1, 0, "-");
    }

    private static void everyNumber(String board, int side, int rights, String passing) {
        MoveList x = position(board, side, rights, passing);
        List<Integer> list = oracle(x).list();
        int calls = 0;
        for (int move = -8 * 4096; move < 16 * 4096; move++) {
            if (++calls > 400) {
                x = position(board, side, rights, passing);
                calls = 0;
            }
            Due.answer(board + ": place(" + move + ")", x.place(move), list.indexOf(move));
        }
        for (int bit = 15; bit < 32; bit++) {
            for (int i = 0; i < list.size(); i += 5) {
                int move = list.get(i) ^ 1 << bit;
                Due.answer(board + ": place(" + move + ")", x.place(move), NONE);
            }
        }
    }

    @Sentence(in = "Terms", says = "kind is 0, or for a pawn that comes to the last rank (8 for white, 1 for black) what it becomes: "
        + "2 knight, 3 bishop, 4 rook, 5 queen.")
    static void kinds() {
        for (int file = 0; file < 8; file++) {
            kinds(48 + file, 56 + file, 1);
            kinds(8 + file, file, 7);
            kinds(40 + file, 48 + file, 1);
            kinds(16 + file, 8 + file, 7);
            // Not on the other side's last rank.
            kinds(file, 8 + file, 1);
            kinds(56 + file, 48 + file, 7);
        }
        MoveList x = white("1r6/P7/8/8/8/8/k6K/8");
        for (int kind = -1; kind < 9; kind++) {
            legal("taking, kind " + kind, x, mv("a7b8") + 4096 * kind, kind >= 2 && kind <= 5);
            legal("a king to the last rank, kind " + kind, white("8/K7/8/8/8/8/8/7k"), mv("a7a8") + 4096 * kind, kind == 0);
            legal("a rook to the last rank, kind " + kind, white("8/R7/8/8/8/8/8/K6k"), mv("a7a8") + 4096 * kind, kind == 0);
        }
        for (int kind = 2; kind <= 5; kind++) {
            MoveList y = white("1r6/P7/8/8/8/8/k6K/8");
            y.make(mv("a7a8") + 4096 * kind);
            Due.answer("a white pawn becomes", y.at(sq("a8")), kind);
            MoveList z = black("8/8/8/8/7k/7p/K6p/8");
            z.make(mv("h2h1") + 4096 * kind);
            Due.answer("a black pawn becomes", z.at(sq("h1")), kind + 6);
        }
    }

    private static void kinds(int from, int to, int pawn) {
        Oracle o = new Oracle();
        o.board[from] = pawn;
        o.side = pawn == 1 ? 0 : 1;
        addQuietKings(o);
        MoveList x = of(o);
        boolean last = to / 8 == (pawn == 1 ? 7 : 0);
        for (int kind = -8; kind <= 16; kind++) {
            legal(o + " kind " + kind, x, from + 64 * to + 4096 * kind, last ? kind >= 2 && kind <= 5 : kind == 0);
        }
    }

    @Sentence(in = "Terms", says = "On from is a piece of the side to move,")
    static void from() {
        MoveList x = game();
        for (int s = 0; s < 64; s++) {
            boolean goes = s >= 8 && s < 16 || s == 1 || s == 6;
            Due.answer("white: on(" + s + ", true)", x.on(s, true), goes ? 2 : 0);
        }
        x.state(1, 15, NONE);
        for (int s = 0; s < 64; s++) {
            boolean goes = s >= 48 && s < 56 || s == 57 || s == 62;
            Due.answer("black: on(" + s + ", true)", x.on(s, true), goes ? 2 : 0);
        }
    }

    @Sentence(in = "Terms", says = "on to none of it, and no king.")
    static void to() {
        MoveList x = white("4k3/8/8/2P1P3/3Q4/2N1P3/8/3RK3");
        for (String own : new String[] {"d4c5", "d4e5", "d4c3", "d4e3", "d4d1", "d1e1", "c3d1", "e1d1"}) {
            legal(x, own, false);
        }
        // All squares round the king and the rook are full.
        Due.answer("a rook in the corner", white("4k3/8/8/8/8/8/P7/RN2K3").on(0, true), 0);
        Due.answer("a king in the corner", white("k7/8/8/8/8/8/PP6/KN6").on(0, true), 0);
        Due.answer("a king beside the corner", white("k7/8/8/8/8/8/PPP5/1KN5").on(1, true), 1);
        Due.answer("a king beside the far corner", black("6kn/5ppp/8/8/8/8/8/K7").on(62, true), 1);
        // A pawn does not go to the king in front of it, a rook's line ends before one that is shut off.
        MoveList y = white("8/4k3/4P3/8/8/8/8/4K3");
        Due.answer("a pawn before the king", y.on(sq("e6"), true), 0);
        MoveList z = white("4k3/4p3/8/8/8/8/4R3/4K3");
        Due.answer("to the king", z.on(sq("e8"), false), 0);
        sameList(x);
        sameList(z);
    }

    @Sentence(in = "Terms", says = "The piece goes so: knight, bishop, rook, queen, king as they ATTACK;")
    static void piecesGo() {
        for (int type = 2; type <= 6; type++) {
            for (int s = 0; s < 64; s++) {
                for (int side = 0; side < 2; side++) {
                    Oracle o = new Oracle();
                    o.side = side;
                    o.board[s] = type + 6 * side;
                    if (type == 6) {
                        o.board[s < 32 ? 63 : 0] = 12 - 6 * side;
                    } else {
                        addQuietKings(o);
                    }
                    goAsTheyAttack(o, s);
                }
            }
        }
        sameList(white("4k3/8/2p1p3/1p1N1p2/8/1P3P2/2p1P3/4K3"));
        sameList(white("4k3/8/1p3p2/8/3B4/8/1P3p2/4K3"));
        sameList(black("4k3/3p4/8/8/1p1r2P1/8/3P4/4K3"));
        sameList(black("4k3/8/1p1P1p2/8/1P1q2P1/8/1p3P2/7K"));
    }

    /** Such a piece stands alone, but for kings that it does not meet. */
    private static void goAsTheyAttack(Oracle o, int s) {
        MoveList x = of(o);
        for (int t = 0; t < 64; t++) {
            legal(o.toString(), x, s + 64 * t, o.attacks(s, t));
        }
    }

    @Sentence(in = "Terms", says = "a pawn one rank on to an empty square,")
    static void pawnsGoOne() {
        int[] due = {1, 2, 1, 1, 1, 1, 4, 0};
        for (int s = 0; s < 64; s++) {
            for (int side = 0; side < 2; side++) {
                int rank = side == 0 ? s / 8 : 7 - s / 8;
                int one = side == 0 ? s + 8 : s - 8;
                for (int piece = 0; piece <= 11; piece++) {
                    if (piece == 6 || rank == 7 && piece > 0) {
                        continue;
                    }
                    Oracle o = new Oracle();
                    o.side = side;
                    o.board[s] = 1 + 6 * side;
                    if (piece > 0) {
                        o.board[one] = piece;
                    }
                    addQuietKings(o);
                    Due.answer(o + ": on(" + s + ", true)", of(o).on(s, true), piece > 0 ? 0 : due[rank]);
                }
            }
        }
        Due.answer("no pawn goes back", white("4k3/8/8/8/3P4/8/8/4K3").place(mv("d4d3")), NONE);
        Due.answer("no pawn goes aside", white("4k3/8/8/8/3P4/8/8/4K3").place(mv("d4e4")), NONE);
    }

    @Sentence(in = "Terms", says = "from its second rank (2, 7) two ranks over an empty square to an empty one,")
    static void pawnsGoTwo() {
        for (int s = 0; s < 64; s++) {
            for (int side = 0; side < 2; side++) {
                int one = side == 0 ? s + 8 : s - 8;
                int two = side == 0 ? s + 16 : s - 16;
                if (two >= 0 && two < 64) {
                    boolean second = s / 8 == (side == 0 ? 1 : 6);
                    goesTwo(s, one, two, side, 0, second);
                    goesTwo(s, one, two, side, 2, false);
                    goesTwo(s, one, two, side, 8, false);
                }
            }
        }
    }

    /** With a piece (or none) on the square that it would come to, then on the one that it would pass. */
    private static void goesTwo(int s, int one, int two, int side, int piece, boolean due) {
        Oracle o = new Oracle();
        o.side = side;
        o.board[s] = 1 + 6 * side;
        o.board[one] = 2;
        o.board[two] = 2;
        addQuietKings(o);
        o.board[one] = 0;
        o.board[two] = piece;
        MoveList x = of(o);
        legal(o.toString(), x, s + 64 * two, due);
        x.put(two, 0);
        x.put(one, piece);
        legal(o + " or on the square between", x, s + 64 * two, due);
    }

    @Sentence(in = "Terms", says = "or as it ATTACKS to a square with a piece of the other side,")
    static void pawnsTake() {
        for (int s = 0; s < 64; s++) {
            for (int t = 0; t < 64; t++) {
                for (int side = 0; side < 2 && s != t; side++) {
                    Oracle o = new Oracle();
                    o.side = side;
                    o.board[s] = 1 + 6 * side;
                    o.board[t] = 8 - 6 * side;
                    addQuietKings(o);
                    boolean takes = Math.abs(s % 8 - t % 8) == 1 && t / 8 - s / 8 == 1 - 2 * side;
                    boolean last = t / 8 == 7 - 7 * side;
                    MoveList x = of(o);
                    legal(o.toString(), x, s + 64 * t, takes && !last);
                    legal(o + " to a queen", x, s + 64 * t + 4096 * 5, takes && last);
                    x.put(t, 2 + 6 * side);
                    legal(o + " but one's own", x, s + 64 * t + (last ? 4096 * 5 : 0), false);
                }
            }
        }
        // To an empty square it does not go so.
        MoveList x = white("4k3/8/8/8/3P4/8/8/4K3");
        legal(x, "d4c5", false);
        legal(x, "d4e5", false);
    }

    @Sentence(in = "Terms", says = "or to PASSING,")
    static void passingEverywhere() {
        for (int passing = 0; passing < 64; passing++) {
            for (int side = 0; side < 2; side++) {
                int back = side == 0 ? passing - 8 : passing + 8;
                for (int s = 0; s < 64 && back >= 0 && back < 64; s++) {
                    if (s != passing && s != back) {
                        passingFrom(s, passing, back, side);
                    }
                }
            }
        }
        legal(position("4k3/8/8/3pP3/8/8/8/4K3", 0, 0, "-"), "e5d6", false);
        legal(position("4k3/8/8/3pPp2/8/8/8/4K3", 0, 0, "d6"), "e5f6", false);
        // Only pawns take in passing.
        MoveList knight = position("4k3/8/8/1N1p4/8/4K3/8/8", 0, 0, "d6");
        Due.answer("a knight goes to PASSING", knight.kind(mv("b5d6")), 16);
        knight.make(mv("b5d6"));
        Due.answer("and takes nothing", knight.at(sq("d5")), 7);
        Due.answer("a king goes to PASSING", position("8/8/4K3/3p4/8/8/8/k7", 0, 0, "d6").kind(mv("e6d6")), 0);
        // A pawn goes on to PASSING and takes nothing either.
        MoveList pawn = position("4k3/8/8/8/3P4/8/8/4K3", 0, 0, "d5");
        Due.answer("a pawn goes on to PASSING", pawn.kind(mv("d4d5")), 0);
    }

    private static void passingFrom(int s, int passing, int back, int side) {
        Oracle o = new Oracle();
        o.side = side;
        o.passing = passing;
        o.board[s] = 1 + 6 * side;
        o.board[back] = 7 - 6 * side;
        addQuietKings(o);
        boolean takes = Math.abs(s % 8 - passing % 8) == 1 && s / 8 == back / 8;
        boolean last = passing / 8 == 7 - 7 * side;
        MoveList x = of(o);
        int move = s + 64 * passing;
        legal(o.toString(), x, move, takes && !last);
        for (int kind = 1; kind <= 6; kind++) {
            legal(o.toString(), x, move + 4096 * kind, takes && last && kind >= 2 && kind <= 5);
        }
        if (takes) {
            int made = last ? move + 4096 * 3 : move;
            Due.answer(o + ": kind(" + made + ") but for check and end", x.kind(made) & 15, last ? 11 : 3);
            x.make(made);
            Due.answer(o + ": the other pawn is taken", x.at(back), 0);
            Due.answer(o + ": it comes to PASSING", x.at(passing), (last ? 3 : 1) + 6 * side);
            x.unmake();
            Due.answer(o + ": the other pawn is back", x.at(back), 7 - 6 * side);
            Due.answer(o + ": it is back", x.at(s), 1 + 6 * side);
            Due.answer(o + ": PASSING is back", x.look(2), passing);
        }
    }

    @Sentence(in = "Terms", says = "if that is empty")
    static void passingIsEmpty() {
        for (int piece = 1; piece <= 11; piece++) {
            if (piece == 6) {
                continue;
            }
            MoveList x = position("7k/8/8/3pP3/8/8/8/K7", 0, 0, "d6");
            x.put(sq("d6"), piece);
            boolean theirs = piece > 6;
            legal(x, "e5d6", theirs);
            if (theirs) {
                Due.answer("taking " + piece + " on PASSING, in passing", x.kind(mv("e5d6")) & 3, 1);
                x.make(mv("e5d6"));
                Due.answer("the pawn behind " + piece + " stays", x.at(sq("d5")), 7);
                x.unmake();
                Due.answer("what was taken is back", x.at(sq("d6")), piece);
            }
        }
        // The pawn on d5 gives check and stays, if the one on d6 is taken.
        legal(position("7k/8/3p4/3pP3/4K3/8/8/8", 0, 0, "d6"), "e5d6", false);
        legal(position("7k/8/8/3pP3/4K3/8/8/8", 0, 0, "d6"), "e5d6", true);
    }

    @Sentence(in = "Terms", says = "and a pawn of the other side stands a rank back from it (which is taken);")
    static void passingHasAPawn() {
        for (int piece = 0; piece <= 11; piece++) {
            if (piece != 6) {
                MoveList white = position("7k/8/8/4P3/8/8/8/K7", 0, 0, "d6");
                white.put(sq("d5"), piece);
                legal(white, "e5d6", piece == 7);
                MoveList black = position("k7/8/8/8/4p3/8/8/7K", 1, 0, "d3");
                black.put(sq("d4"), piece);
                legal(black, "e4d3", piece == 1);
            }
        }
        // A rank on from it, or two back, is not a rank back.
        legal(position("7k/3p4/8/4P3/8/8/8/K7", 0, 0, "d6"), "e5d6", false);
        legal(position("7k/8/8/4P3/3p4/8/8/K7", 0, 0, "d6"), "e5d6", false);
        legal(position("7k/8/8/8/4p3/8/3P4/K7", 1, 0, "d3"), "e4d3", false);
        // On its own first rank nothing stands a rank back.
        sameList(position("7k/8/8/8/8/8/1p6/K7", 0, 0, "a1"));
        sameList(position("7k/6P1/8/8/8/8/8/K7", 1, 0, "h8"));
        sameList(position("7k/8/8/8/8/8/P7/6K1", 0, 0, "b1"));
        sameList(position("7k/p7/8/8/8/8/8/6K1", 1, 0, "b8"));
    }

    @Sentence(in = "Terms", says = "a king CASTLING: from its own square (e1, e8) two files to the side,")
    static void castlingFromHome() {
        for (int side = 0; side < 2; side++) {
            for (int s = 0; s < 64; s++) {
                Oracle o = new Oracle();
                o.side = side;
                o.rights = 15;
                int up = 56 * side;
                o.board[up] = 4 + 6 * side;
                o.board[up + 7] = 4 + 6 * side;
                if (o.board[s] != 0) {
                    continue;
                }
                o.board[s] = 6 + 6 * side;
                o.board[s / 8 < 4 ? 51 : 11] = 12 - 6 * side;
                if (o.playable()) {
                    MoveList x = of(o);
                    boolean home = s == 4 + up;
                    legal(o.toString(), x, s + 64 * (s + 2), home);
                    legal(o.toString(), x, s + 64 * (s - 2), home);
                    legal(o.toString(), x, s + 64 * (s + 3), false);
                    Due.answer(o + ": castlings", castlings(x), home ? 2 : 0);
                }
            }
        }
        // The other side's home is not its own.
        Due.answer("on e8", castlings(position("R3K2R/8/8/8/8/8/8/4k3", 0, 15, "-")), 0);
        Due.answer("on e1", castlings(position("4K3/8/8/8/8/8/8/r3k2r", 1, 15, "-")), 0);
        // A queen or a rook on e1 does not castle.
        Due.answer("a queen on e1", castlings(position("4k3/8/8/8/8/3Kp3/4p3/R3Q2R", 0, 15, "-")), 0);
    }

    /** How many of the list's moves castle. */
    private static int castlings(MoveList x) {
        int sum = 0;
        for (int i = 0; i < x.count(); i++) {
            sum += (x.kind(x.move(i)) & 4) / 4;
        }
        return sum;
    }

    @Sentence(in = "Terms", says = "if the RIGHT for it is there,")
    static void castlingRight() {
        for (int rights = 0; rights < 16; rights++) {
            castles(CASTLES, rights, (rights & 1) != 0, (rights & 2) != 0, 0);
            castles(CASTLES, rights, (rights & 4) != 0, (rights & 8) != 0, 1);
        }
    }

    /** Whether the side castles on the king's side, and on the queen's. */
    private static void castles(String board, int rights, boolean kingSide, boolean queenSide, int side) {
        MoveList x = position(board, side, rights, "-");
        Due.answer(board + " side " + side + ": playable()", x.playable(), true);
        castles(board + " rights " + rights, x, side == 0 ? "e1g1" : "e8g8", kingSide);
        castles(board + " rights " + rights, x, side == 0 ? "e1c1" : "e8c8", queenSide);
    }

    private static void castles(String what, MoveList x, String move, boolean due) {
        boolean is = x.place(mv(move)) != NONE;
        Due.answer(what + ": castling " + move, is, due);
        if (is) {
            Due.answer(what + ": kind of " + move, x.kind(mv(move)) & 4, 4);
        }
    }

    @Sentence(in = "Terms", says = "its rook stands on its corner,")
    static void castlingRook() {
        for (int piece = 0; piece <= 11; piece++) {
            if (piece != 6) {
                rookOnCorner(7, piece, 0, "e1g1");
                rookOnCorner(0, piece, 0, "e1c1");
                rookOnCorner(63, piece, 1, "e8g8");
                rookOnCorner(56, piece, 1, "e8c8");
            }
        }
        castles("4k3/8/8/8/8/8/R6R/4K3", 15, false, false, 0);
        castles("4k3/r6r/8/8/8/8/8/4K3", 15, false, false, 1);
        castles("r3k2r/8/8/8/8/8/8/4K3", 15, false, false, 0);
        castles("4k3/8/8/8/8/8/8/R3K2R", 15, false, false, 1);
    }

    private static void rookOnCorner(int corner, int piece, int side, String move) {
        // The other king stands where nothing on a corner attacks it.
        MoveList x = position(side == 0 ? "8/2k5/8/8/8/8/8/4K3" : "4k3/8/8/8/8/8/2K5/8", side, 15, "-");
        x.put(corner, piece);
        legal("piece " + piece + " on " + corner, x, mv(move), piece == 4 + 6 * side);
    }

    @Sentence(in = "Terms", says = "all squares between them are empty,")
    static void castlingBetween() {
        for (int piece = 1; piece <= 11; piece++) {
            for (int file = 1; file <= 6 && piece != 6; file++) {
                if (file != 4) {
                    Oracle o = new Oracle();
                    o.rights = 15;
                    o.board[0] = 4;
                    o.board[7] = 4;
                    o.board[4] = 6;
                    o.board[50] = 12;
                    o.board[42] = 7;
                    o.board[file] = piece;
                    between(o, file);
                    between(mirror(o), file);
                }
            }
        }
        castles("4k3/8/8/8/8/8/8/R3KB1R", 3, false, true, 0);
        castles("4k3/8/8/8/8/8/8/R3K1NR", 3, false, true, 0);
        castles("4k3/8/8/8/8/8/8/RN2K2R", 3, true, false, 0);
        castles("4k3/8/8/8/8/8/8/R1B1K2R", 3, true, false, 0);
        castles("3k4/3p4/8/8/8/8/8/R2QK2R", 3, true, false, 0);
        castles("rn2k1nr/8/8/8/8/8/8/4K3", 12, false, false, 1);
    }

    private static void between(Oracle o, int file) {
        Due.answer(o + " can be played", o.playable(), true);
        String home = o.side == 0 ? "1" : "8";
        MoveList x = of(o);
        legal(o.toString(), x, mv("e" + home + (file > 4 ? "g" : "c") + home), false);
        x.put(sq((char) ('a' + file) + home), 0);
        legal(o + " and the square empty", x, mv("e" + home + (file > 4 ? "g" : "c") + home), true);
    }

    /** The same with the colours changed. */
    private static Oracle mirror(Oracle o) {
        Oracle m = new Oracle();
        for (int s = 0; s < 64; s++) {
            int piece = o.board[s];
            m.board[s ^ 56] = piece == 0 ? 0 : piece > 6 ? piece - 6 : piece + 6;
        }
        m.side = 1 - o.side;
        m.rights = o.rights >> 2 | (o.rights & 3) << 2;
        m.passing = o.passing == NONE ? NONE : o.passing ^ 56;
        return m;
    }

    @Sentence(in = "Terms", says = "and neither the king's square nor the one it passes is ATTACKED by the other side;")
    static void castlingAttacked() {
        // One rook of theirs on each file: e, f, d, the two that the king comes to, and those that don't matter.
        boolean[] kingSide = {true, true, true, true, false, false, false, true};
        boolean[] queenSide = {true, true, false, false, false, true, true, true};
        for (int file = 0; file < 8; file++) {
            Oracle o = new Oracle();
            o.rights = 15;
            o.board[0] = 4;
            o.board[7] = 4;
            o.board[4] = 6;
            o.board[32 + file] = 10;
            // Shut off from both rooks, on a file of its own.
            int king = file < 4 ? 62 : 57;
            o.board[king] = 12;
            castlesSo(o, kingSide[file], queenSide[file]);
            castlesSo(mirror(o), kingSide[file], queenSide[file]);
        }
        // In check, and by each sort of piece; then past a square that each sort of piece attacks.
        castles("6k1/8/8/8/4q3/8/8/R3K2R", 3, false, false, 0);
        castles("6k1/8/8/8/7b/8/8/R3K2R", 3, false, false, 0);
        castles("6k1/8/8/8/8/5n2/8/R3K2R", 3, false, false, 0);
        castles("6k1/8/8/8/8/8/3p4/R3K2R", 3, false, false, 0);
        castles("6k1/8/8/8/2b5/8/8/R3K2R", 3, false, true, 0);
        castles("6k1/8/8/8/6b1/8/8/R3K2R", 3, true, false, 0);
        castles("6k1/8/8/8/8/6n1/8/R3K2R", 3, false, true, 0);
        castles("6k1/8/8/8/8/2n5/8/R3K2R", 3, true, false, 0);
        castles("6k1/8/8/8/8/8/4p3/R3K2R", 3, false, false, 0);
        castles("6k1/8/8/8/8/8/6p1/R3K2R", 3, false, true, 0);
        castles("8/8/8/8/8/8/6k1/R3K3", 3, false, true, 0);
        castles("8/8/8/8/8/8/1k6/4K2R", 3, true, false, 0);
        castles("r3k2r/4P3/8/8/8/8/8/3K4", 12, false, false, 1);
        castles("r3k2r/P7/8/8/8/8/8/3K4", 12, true, true, 1);
        castles("r3k2r/1P6/8/8/8/8/8/3K4", 12, true, false, 1);
        castles("r3k2r/7P/8/8/8/8/8/3K4", 12, false, true, 1);
        // A line that is shut attacks nothing; a piece that is pinned attacks all the same.
        castles("5rk1/8/8/8/8/8/5P2/R3K2R", 3, true, true, 0);
        castles("5k2/5r2/8/8/8/5R2/8/4K2R", 3, true, false, 0);
        castles("8/8/8/R4rk1/8/8/8/4K2R", 3, false, false, 0);
    }

    private static void castlesSo(Oracle o, boolean kingSide, boolean queenSide) {
        Due.answer(o + " can be played", o.playable(), true);
        String home = o.side == 0 ? "1" : "8";
        MoveList x = of(o);
        castles(o.toString(), x, "e" + home + "g" + home, kingSide);
        castles(o.toString(), x, "e" + home + "c" + home, queenSide);
    }

    @Sentence(in = "Terms", says = "the rook comes to the square that is passed.")
    static void castled() {
        castled("e1g1", 0, "h1", "f1");
        castled("e1c1", 0, "a1", "d1");
        castled("e8g8", 1, "h8", "f8");
        castled("e8c8", 1, "a8", "d8");
    }

    private static void castled(String move, int side, String corner, String passed) {
        MoveList x = position(CASTLES, side, 15, "-");
        String before = picture(x);
        x.make(mv(move));
        for (int s = 0; s < 64; s++) {
            int due = position(CASTLES, 0, 0, "-").at(s);
            if (s == sq(move.substring(0, 2)) || s == sq(corner)) {
                due = 0;
            } else if (s == sq(move.substring(2))) {
                due = 6 + 6 * side;
            } else if (s == sq(passed)) {
                due = 4 + 6 * side;
            }
            Due.answer(move + ": at(" + s + ")", x.at(s), due);
        }
        Due.answer(move + " taken back", x.unmake(), mv(move));
        Due.answer(move + " taken back: all", picture(x), before);
    }

    @Sentence(in = "Terms", says = "It is LEGAL if the king does not stand on a square that the other side ATTACKS, when it has been made.")
    static void legalIfTheKingIsSafe() {
        // The king does not go along the line that attacks it, and takes only what is not covered.
        legal(white("4k3/8/8/8/8/8/8/r2K4"), "d1e1", false);
        legal(white("4k3/8/8/8/8/8/8/r2K4"), "d1d2", true);
        legal(white("4k3/8/8/b7/8/8/3K4/8"), "d2e1", false);
        legal(white("7k/8/8/8/8/8/3q4/3K4"), "d1d2", true);
        legal(white("3r3k/8/8/8/8/8/3q4/3K4"), "d1d2", false);
        legal(white("8/8/8/8/8/2k5/8/2K5"), "c1c2", false);
        legal(white("8/8/8/8/8/2k5/8/2K5"), "c1d1", true);
        // A check ends by taking, by coming between, or by going.
        legal(white("4r1k1/8/8/8/8/8/3P4/R3K2Q"), "h1e4", true);
        legal(white("4r1k1/8/8/8/8/8/3P4/R3K2Q"), "h1h2", false);
        legal(white("4r1k1/8/8/8/8/8/3P4/R3K2Q"), "d2d3", false);
        legal(white("R3r1k1/8/8/8/8/8/3P4/4K3"), "a8e8", true);
        legal(white("4k3/8/8/8/8/3n4/2P5/4K3"), "c2d3", true);
        legal(white("4k3/8/8/8/8/3n4/2P5/4K3"), "c2c3", false);
        // Of several checks all must end: only the king can do that.
        onlyTheKing("6k1/8/8/8/8/3n4/2n5/R3KB1R");
        onlyTheKing("4r1k1/8/8/8/8/3n4/7R/4KB1R");
        onlyTheKing("4r1k1/8/8/8/7b/8/R6R/4KB2");
        onlyTheKing("6k1/8/8/8/8/8/3p1p2/R3KB1R");
        onlyTheKing("6k1/8/8/8/8/3n4/2n5/1R2KB1R");
        // A pinned piece goes along its line alone.
        MoveList pinned = white("4r1k1/8/8/8/8/8/4R3/4K3");
        Due.answer("a pinned rook", pinned.on(sq("e2"), true), 6);
        Due.answer("a pinned knight", white("4r1k1/8/8/8/8/8/4N3/4K3").on(sq("e2"), true), 0);
        Due.answer("a pinned bishop on its own line", white("6k1/8/8/8/7b/8/5B2/4K3").on(sq("f2"), true), 2);
        Due.answer("a pinned pawn on a file", white("4r1k1/8/8/8/8/8/4P3/4K3").on(sq("e2"), true), 2);
        Due.answer("a pinned pawn on a slope", white("6k1/8/8/8/7b/8/5P2/4K3").on(sq("f2"), true), 0);
        Due.answer("a pinned pawn that takes it", white("6k1/8/8/8/8/6b1/5P2/4K3").on(sq("f2"), true), 1);
        passingAndTheKing();
        sameList(white("4r1k1/8/8/8/7b/8/3PRP2/r2QK2R"));
        sameList(black("4k2R/3qr3/8/1B6/4R3/8/8/4K3"));
    }

    private static void onlyTheKing(String board) {
        MoveList x = white(board);
        Due.answer(board + ": check()", x.check(), true);
        Due.answer(board + ": all moves are the king's", x.count(), x.on(sq("e1"), true));
        sameList(x);
    }

    private static void passingAndTheKing() {
        // Both leave the rank at once.
        legal(position("8/8/8/K2pP2r/8/8/8/4k3", 0, 0, "d6"), "e5d6", false);
        legal(position("8/8/8/K2pP2b/8/8/8/4k3", 0, 0, "d6"), "e5d6", true);
        legal(position("8/8/8/8/k2Pp2R/8/8/4K3", 1, 0, "d3"), "e4d3", false);
        // The pawn that gives check is taken.
        legal(position("4k3/8/8/3pP3/4K3/8/8/8", 0, 0, "d6"), "e5d6", true);
        legal(position("4k3/8/8/3pP3/2K5/8/8/8", 0, 0, "d6"), "e5d6", true);
        legal(position("4k3/8/8/3pP3/2K4r/8/8/8", 0, 0, "d6"), "e5d6", false);
        // It comes between, or leaves a pin's line, or stays on it.
        legal(position("3r4/8/8/3pP3/8/3K4/8/k7", 0, 0, "d6"), "e5d6", true);
        legal(position("4r3/8/8/3pP3/8/4K3/8/k7", 0, 0, "d6"), "e5d6", false);
        legal(position("8/2b5/8/3pP3/5K2/8/8/k7", 0, 0, "d6"), "e5d6", true);
        // What stood behind the pawn that is taken.
        legal(position("8/5b2/8/3pP3/2K5/8/8/k7", 0, 0, "d6"), "e5d6", false);
    }

    @Sentence(in = "Terms", says = "The LIST has all LEGAL moves, by from, then to, then kind, the least first.")
    static void order() {
        MoveList x = white("8/P7/8/8/8/8/k6K/1n6");
        x.put(sq("b8"), 10);
        String[] due = {"h2g1", "h2h1", "h2g2", "h2g3", "h2h3", "a7a8n", "a7a8b", "a7a8r", "a7a8q",
            "a7b8n", "a7b8b", "a7b8r", "a7b8q"};
        Due.answer("count()", x.count(), due.length);
        for (int i = 0; i < due.length; i++) {
            Due.answer("move(" + i + ") is " + due[i], x.move(i), mv(due[i]));
        }
        sameList(black("8/8/8/8/8/K6k/2p4p/1B1N4"));
        sameList(position(CASTLES, 0, 15, "-"));
        sameList(position(CASTLES, 1, 15, "-"));
        sameList(position("r3k2r/p1ppqpb1/bn2pnp1/3PN3/1p2P3/2N2Q1p/PPPBBPPP/R3K2R", 0, 15, "-"));
        sameList(position("r3k2r/p1ppqpb1/bn2pnp1/3PN3/Pp2P3/2N2Q1p/1PPBBPPP/R3K2R", 1, 15, "a3"));
        // More moves than a game can bring: the list has them all.
        sameList(white("KQQQQQQQ/Q6Q/Q6Q/Q6Q/Q6Q/Q6Q/Q5RB/QQQQQQBk"));
        sameList(white("QQQQQQQQ/Q6Q/Q6Q/Q6Q/Q6Q/Q6Q/Q5PP/QQQQQKpk"));
        sameList(white("Q1Q1Q1Q1/8/1Q1Q1Q1Q/8/Q1Q1Q1Q1/8/1Q1Q1QPP/K4Ppk"));
        sameList(white("n1n1n1n1/PPPPPPPP/8/8/8/8/K7/7k"));
        sameList(white("QNQNQNQN/8/NQNQNQNQ/8/QNQNQN2/6PP/5PPp/K5pk"));
        // None of all, and no room to move on a full board.
        sameList(black(MATE));
        sameList(black(STALE));
        sameList(white("pppppppk/pppppppp/pppppppp/pppppppp/PPPPPPPP/PPPPPPPP/PPPPPPPP/KPPPPPPP"));
        sameList(white("nnnnnnnk/nnnnnnnn/nnnnnnnn/PPPPPPPP/pppppppp/NNNNNNNN/NNNNNNNN/NNNNNNNK"));
    }
}
