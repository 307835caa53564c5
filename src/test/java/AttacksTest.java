/** What pieces attack, and what is told of it: promises 16 and 17. */
final class AttacksTest extends Boards {
    private static final int[][] WAYS = {{0, 1}, {0, -1}, {1, 0}, {-1, 0}, {1, 1}, {-1, 1}, {1, -1}, {-1, -1}};

    public static void main(String[] args) throws ReflectiveOperationException {
        Due.sentences(AttacksTest.class);
    }

    @Sentence(in = "Terms", says = "ATTACKS of a piece: king: the squares a step away in eight directions;")
    static void kings() {
        for (int s = 0; s < 64; s++) {
            for (int t = 0; t < 64; t++) {
                if (s == t) {
                    continue;
                }
                MoveList x = new MoveList();
                x.put(s, 6);
                x.put(t, 12);
                Due.answer("kings on " + s + " and " + t + ", white to move", x.playable(), apart(s, t) > 1);
                x.state(1, 0, NONE);
                Due.answer("kings on " + s + " and " + t + ", black to move", x.playable(), apart(s, t) > 1);
            }
        }
    }

    @Sentence(in = "Terms", says = "knight: two and one;")
    static void knights() {
        everyPair(2);
    }

    @Sentence(in = "Terms", says = "bishop, rook, queen: as far as the first piece, which belongs to them;")
    static void sliders() {
        everyPair(3);
        everyPair(4);
        everyPair(5);
        for (int s = 0; s < 64; s++) {
            for (int way = 0; way < 8; way++) {
                shutLines(s, way);
            }
        }
        // The first piece belongs to them, their own too: the king may not take it.
        legal(black("4k3/4N3/8/8/8/8/8/K3R3"), "e8e7", false);
        legal(black("4k3/4N3/8/8/8/8/4n3/K3R3"), "e8e7", true);
        legal(black("4k3/3N4/8/1B6/8/8/8/K7"), "e8d7", false);
        legal(black("4k3/3N4/2p5/1B6/8/8/8/K7"), "e8d7", true);
        legal(black("3Nk3/8/8/8/8/8/8/K2Q4"), "e8d8", false);
        legal(white("8/8/8/7q/8/8/5n2/k3K3"), "e1f2", true);
        legal(white("8/8/8/5q2/8/8/5n2/k3K3"), "e1f2", false);
    }

    /** No attack goes on behind the first piece, whosever it is. */
    private static void shutLines(int s, int way) {
        for (int far = 2; far < 8; far++) {
            int king = step(s, way, far);
            if (king == NONE) {
                return;
            }
            for (int near = 1; near < far; near++) {
                for (int colour = 0; colour < 2; colour++) {
                    Oracle o = new Oracle();
                    o.board[s] = 5 + 6 * colour;
                    o.board[king] = 12 - 6 * colour;
                    o.side = colour;
                    addKing(o, 6 + 6 * colour, s, king);
                    MoveList x = of(o);
                    Due.answer(o + ": playable()", x.playable(), false);
                    x.put(step(s, way, near), 2);
                    Due.answer(o + " and a white knight " + near + " away: playable()", x.playable(), true);
                    x.put(step(s, way, near), 8);
                    Due.answer(o + " and a black knight " + near + " away: playable()", x.playable(), true);
                }
            }
        }
    }

    private static int step(int s, int way, int far) {
        int file = s % 8 + WAYS[way][0] * far;
        int rank = s / 8 + WAYS[way][1] * far;
        return file < 0 || file > 7 || rank < 0 || rank > 7 ? NONE : file + 8 * rank;
    }

    @Sentence(in = "Terms", says = "pawn: a rank on (white up) and a file beside.")
    static void pawns() {
        everyPair(1);
        // From the last rank and from the first one too: the pawn is put there, not moved.
        Due.answer("a white pawn on a1", black("8/8/8/8/8/7K/1k6/P7").check(), true);
        Due.answer("a black pawn on h8", white("7p/6K1/8/8/8/8/1k6/8").check(), true);
        Due.answer("a white pawn on h8", black("7P/k7/8/8/8/8/8/4K3").check(), false);
        Due.answer("a black pawn on a1", white("4k3/8/8/8/8/8/7K/p7").check(), false);
    }

    /** A piece of either colour on each square, the other king on each other one. */
    private static void everyPair(int type) {
        for (int s = 0; s < 64; s++) {
            for (int t = 0; t < 64; t++) {
                for (int colour = 0; colour < 2 && s != t; colour++) {
                    Oracle o = new Oracle();
                    o.board[s] = type + 6 * colour;
                    o.board[t] = 12 - 6 * colour;
                    o.side = colour;
                    addKing(o, 6 + 6 * colour, s, t);
                    Due.answer(o + ": playable()", of(o).playable(), !reaches(type, colour, s, t));
                    o.side = 1 - colour;
                    Due.answer(o + ": check()", of(o).check(), reaches(type, colour, s, t));
                }
            }
        }
    }

    /** On an empty board. */
    private static boolean reaches(int type, int colour, int s, int t) {
        int files = Math.abs(s % 8 - t % 8);
        int ranks = Math.abs(s / 8 - t / 8);
        switch (type) {
            case 1:
                return files == 1 && t / 8 - s / 8 == (colour == 0 ? 1 : -1);
            case 2:
                return files * ranks == 2;
            case 3:
                return files == ranks;
            case 4:
                return files == 0 || ranks == 0;
            default:
                return files == ranks || files == 0 || ranks == 0;
        }
    }

    /** A king far from the other one, and on no line with the piece on s. */
    private static void addKing(Oracle o, int king, int s, int other) {
        for (int k = 0; k < 64; k++) {
            if (o.board[k] == 0 && apart(k, other) > 1 && !reaches(5, 0, k, s)) {
                o.board[k] = king;
                return;
            }
        }
        throw new IllegalStateException("no room for a king");
    }

    @Sentence(in = "Promise 16", says = "Whether the king of the side to move stands on a square that the other one ATTACKS.")
    static void check() {
        Due.answer("no check", game().check(), false);
        Due.answer("a rook's", white("4k3/8/8/8/4r3/8/8/4K3").check(), true);
        Due.answer("a rook's, shut by one's own", white("4k3/8/8/8/4r3/4P3/8/4K3").check(), false);
        Due.answer("a rook's, shut by theirs", white("4k3/8/8/8/4r3/4p3/8/4K3").check(), false);
        Due.answer("a rook's of one's own", white("4k3/8/8/8/8/8/8/R3K3").check(), false);
        Due.answer("a pawn's", white("4k3/8/8/8/8/8/3p4/4K3").check(), true);
        Due.answer("a pawn's in front", white("4k3/8/8/8/8/8/4p3/4K3").check(), false);
        Due.answer("a pawn's from behind", white("4k3/8/8/8/3K4/4p3/8/8").check(), false);
        Due.answer("a white pawn's", black("4k3/3P4/8/8/8/8/8/4K3").check(), true);
        Due.answer("a knight's", white("4k3/8/8/8/8/3n4/8/4K3").check(), true);
        Due.answer("a bishop's", white("4k3/8/8/8/7b/8/8/4K3").check(), true);
        Due.answer("a queen's", white("4k3/8/8/8/8/8/8/q3K3").check(), true);
        Due.answer("a pinned knight's", white("3k4/8/8/8/8/3n4/8/3RK3").check(), true);
        Due.answer("a pinned bishop's", black("4r3/8/8/1k6/8/8/4B3/4K3").check(), true);
        Due.answer("mate", black(MATE).check(), true);
        Due.answer("stale", black(STALE).check(), false);
        Due.answer("two at once", white("4r1k1/8/8/8/8/3n4/8/4K3").check(), true);
        MoveList x = game();
        String[] moves = {"e2e4", "f7f6", "d1h5"};
        for (String move : moves) {
            x.make(mv(move));
            Due.answer("after " + move, x.check(), move.equals("d1h5"));
        }
        x.unmake();
        Due.answer("and it taken back", x.check(), false);
    }

    @Sentence(in = "Promise 17", says = "The squares with pieces of the side to move that stand between their king and a bishop, "
        + "rook or queen of the other side that would ATTACK it, were they not there")
    static void pinned() {
        pinned("4k3/8/8/8/4r3/8/4N3/4K3", 0, "e2");
        pinned("4k3/8/8/8/7b/8/5P2/4K3", 0, "f2");
        pinned("k7/8/8/8/8/8/8/qB2K3", 0, "b1");
        pinned("q5NK/8/8/8/8/8/8/k7", 0, "g8");
        pinned("1k5q/6N1/5K2/8/8/8/8/8", 0, "g7");
        pinned("4k3/4q3/8/8/8/8/8/4R1K1", 1, "e7");
        pinned("4k3/8/8/8/4b3/8/4N3/4K3", 0, "");
        pinned("4k3/8/8/8/7r/8/5P2/4K3", 0, "");
        pinned("4k3/8/8/8/4p3/8/4N3/4K3", 0, "");
        pinned("8/8/8/8/4k3/8/4N3/4K3", 0, "");
        pinned("4k3/8/8/8/4n3/8/4N3/4K3", 0, "");
        // Theirs stands between, or one's own slides behind.
        pinned("4k3/8/8/8/4r3/4n3/8/4K3", 0, "");
        pinned("k7/8/8/8/4R3/8/4N3/4K3", 0, "");
        // Behind the king, or behind the rook, is not between.
        pinned("q5KN/8/8/8/8/8/8/k7", 0, "");
        pinned("q4K1N/8/8/8/8/8/8/k7", 0, "");
        pinned("Nq3K2/8/8/8/8/8/8/k7", 0, "");
        pinned("7K/8/8/8/8/8/8/k7", 0, "");
        // No line goes over the board's side.
        pinned("k7/8/8/8/7r/KN6/8/8", 0, "");
        pinned("k7/8/8/6NK/r7/8/8/8", 0, "");
        // In check, and pinned by another one; pinned, though it may take what pins it.
        pinned("4k3/8/8/8/4r2b/8/5P2/4K3", 0, "f2");
        pinned("4k3/8/8/8/8/4q3/4R3/4K3", 0, "e2");
        pinned("rnbqkbnr/pppppppp/8/8/8/8/PPPPPPPP/RNBQKBNR", 0, "");
        pinned("rnbqkbnr/pppppppp/8/8/8/8/PPPPPPPP/RNBQKBNR", 1, "");
        // Of the position as it stands, whatever was looked at ahead or made and taken back.
        MoveList x = white("4k3/4q3/8/8/8/4N3/4R3/4K3");
        Due.answer("two between: pinned()", x.pinned(), 0);
        x.kind(mv("e3c4"));
        Due.answer("after kind: pinned()", x.pinned(), 0);
        x.lines(3);
        Due.answer("after lines: pinned()", x.pinned(), 0);
        x.make(mv("e3c4"));
        Due.answer("the other side's: pinned()", x.pinned(), 1L << sq("e7"));
        x.make(mv("e8d8"));
        Due.answer("one between: pinned()", x.pinned(), 1L << sq("e2"));
        x.lines(2);
        Due.answer("one between, after lines: pinned()", x.pinned(), 1L << sq("e2"));
        x.unmake();
        x.unmake();
        Due.answer("all taken back: pinned()", x.pinned(), 0);
    }

    @Sentence(in = "Promise 17", says = "(each of them being the only piece between),")
    static void pinnedAlone() {
        pinned("4k3/8/8/8/4r3/4N3/4N3/4K3", 0, "");
        pinned("4k3/8/8/8/4r3/4n3/4N3/4K3", 0, "");
        pinned("4k3/8/8/8/4r3/4N3/4n3/4K3", 0, "");
        pinned("k7/8/8/8/8/8/8/q1BB2K1", 0, "");
        pinned("k7/8/8/8/8/8/8/qBBBBBK1", 0, "");
        // Two that slide on one line: the nearer one counts, the farther one has it between.
        pinned("4k3/4r3/8/8/4r3/8/4N3/4K3", 0, "e2");
        pinned("4k3/4r3/8/8/4b3/8/4N3/4K3", 0, "");
        pinned("4k3/4r3/8/8/4N3/4b3/8/4K3", 0, "");
    }

    @Sentence(in = "Promise 17", says = "as bits of a long.")
    static void pinnedBits() {
        Due.answer("eight at once", white("q2r2qk/1P3P2/3R4/r1PKP2r/8/1P1P1P2/q2r2q1/8").pinned(),
            1L << 49 | 1L << 53 | 1L << 43 | 1L << 34 | 1L << 36 | 1L << 17 | 1L << 19 | 1L << 21);
        // Between on every square that has one on either side of it.
        for (int s = 0; s < 64; s++) {
            for (int way = 0; way < 8; way++) {
                int king = step(s, way, 1);
                int queen = step(s, way, -1);
                if (king != NONE && queen != NONE) {
                    pinnedOn(s, king, queen);
                }
            }
        }
    }

    private static void pinnedOn(int s, int king, int queen) {
        Oracle o = new Oracle();
        o.board[s] = 2;
        o.board[king] = 6;
        o.board[queen] = 11;
        for (int k = 0; k < 64; k++) {
            if (o.board[k] == 0 && apart(k, king) > 1 && !o.attacks(s, k)) {
                o.board[k] = 12;
                Due.answer(o + ": pinned()", of(o).pinned(), 1L << s);
                return;
            }
        }
    }

    private static void pinned(String board, int side, String squares) {
        long due = squares.isEmpty() ? 0 : 1L << sq(squares);
        MoveList x = position(board, side, 0, "-");
        Due.answer(board + ": pinned()", x.pinned(), due);
        Due.answer(board + ": the oracle's pinned()", oracle(x).pinned(), due);
    }
}
