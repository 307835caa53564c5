import java.util.List;
import java.util.Random;

/** Random positions and games, every answer compared with the Oracle's. */
final class FuzzTest {
    private static final Random RANDOM = new Random(20261118);

    private static Oracle o;
    private static MoveList x;

    public static void main(String[] args) {
        for (int i = 0; i < 6000 && Due.allRight(); i++) {
            scatter(i);
            compare(i);
            if (i % 4 == 0) {
                walk(i, 12);
            }
        }
        for (int i = 0; i < 40 && Due.allRight(); i++) {
            o = Oracle.beginning();
            x = new MoveList();
            x.begin();
            walk(i, 90);
        }
        Due.finish();
    }

    private static int any(int n) {
        return RANDOM.nextInt(n);
    }

    /** Positions of several sorts: kings and rooks at home, pawns beside PASSING, full boards. */
    private static void scatter(int i) {
        o = new Oracle();
        o.side = any(2);
        o.rights = any(16);
        boolean home = any(2) == 0;
        put(home ? 4 : any(64), 6);
        int black = home ? 60 : any(64);
        if (o.board[black] == 0) {
            put(black, 12);
        }
        if (home) {
            for (int corner : new int[] {0, 7, 56, 63}) {
                if (any(4) != 0) {
                    put(corner, corner < 8 ? 4 : 10);
                }
            }
            if (any(3) != 0) {
                o.rights = 15;
            }
        }
        int pieces = any(5) == 0 ? any(62) : any(14);
        int[] pool = pool();
        for (int n = 0; n < pieces; n++) {
            int square = any(64);
            boolean onHomeRank = home && (square < 8 || square > 55) && any(4) != 0;
            if (o.board[square] == 0 && !onHomeRank) {
                put(square, pool[any(pool.length)]);
            }
        }
        choosePassing();
        x = new MoveList();
        for (int s = 0; s < 64; s++) {
            x.put(s, o.board[s]);
        }
        x.state(o.side, o.rights, o.passing);
        if (!x.playable() && any(8) != 0) {
            o.side = 1 - o.side;
            x.state(o.side, o.rights, o.passing);
        }
    }

    private static int[] pool() {
        switch (any(4)) {
            case 0:
                return new int[] {1, 7, 1, 7, 1, 7, 3, 4, 5, 9, 10, 11};
            case 1:
                return new int[] {1, 7};
            case 2:
                return new int[] {2, 3, 4, 5, 8, 9, 10, 11};
            default:
                return new int[] {1, 2, 3, 4, 5, 7, 8, 9, 10, 11};
        }
    }

    private static void choosePassing() {
        o.passing = any(3) == 0 ? any(65) - 1 : -1;
        if (any(2) == 0) {
            // A pawn that can be taken in passing, on any rank, and one beside it.
            int square = any(64);
            int back = o.side == 0 ? square - 8 : square + 8;
            if (back >= 0 && back < 64 && o.board[square] == 0 && Oracle.type(o.board[back]) != 6) {
                put(back, o.side == 0 ? 7 : 1);
                o.passing = square;
                int beside = back % 8 == 7 || back % 8 > 0 && any(2) == 0 ? back - 1 : back + 1;
                if (Oracle.type(o.board[beside]) != 6) {
                    put(beside, o.side == 0 ? 1 : 7);
                }
            }
        }
    }

    private static void put(int square, int piece) {
        o.board[square] = piece;
    }

    private static void compare(int i) {
        String at = "position " + i + ": ";
        same(at);
        Due.answer(at + "playable()", x.playable(), o.playable());
        if (!o.playable()) {
            for (int call = 0; call < 9; call++) {
                int c = call;
                Due.thrown(at + "call " + c, IllegalStateException.class, () -> listCall(c));
            }
            same(at);
            return;
        }
        List<Integer> list = o.list();
        Due.answer(at + "count()", x.count(), list.size());
        int[] from = new int[64];
        int[] to = new int[64];
        for (int n = 0; n < list.size() && n < x.count(); n++) {
            int move = list.get(n);
            Due.answer(at + "move(" + n + ")", x.move(n), move);
            Due.answer(at + "place(" + move + ")", x.place(move), n);
            if (i % 5 == 0) {
                Due.answer(at + "kind(" + move + ")", x.kind(move), o.kind(move));
            }
            from[move % 64]++;
            to[move / 64 % 64]++;
        }
        for (int s = 0; s < 64; s++) {
            Due.answer(at + "on(" + s + ", true)", x.on(s, true), from[s]);
            Due.answer(at + "on(" + s + ", false)", x.on(s, false), to[s]);
        }
        for (int n = 0; n < 10; n++) {
            int move = any(6 * 4096);
            Due.answer(at + "place(" + move + ")", x.place(move), list.indexOf(move));
        }
        Due.answer(at + "check()", x.check(), o.check());
        Due.answer(at + "pinned()", x.pinned(), o.pinned());
        Due.answer(at + "lines(0)", x.lines(0), 1);
        Due.answer(at + "lines(1)", x.lines(1), list.size());
        if (i % 10 == 0 && list.size() < 120) {
            Due.answer(at + "lines(2)", x.lines(2), o.lines(2));
        }
        if (i % 100 == 0 && list.size() < 20) {
            Due.answer(at + "lines(3)", x.lines(3), o.lines(3));
        }
        same(at + "after the questions: ");
    }

    private static long listCall(int call) {
        switch (call) {
            case 0:
                return x.count();
            case 1:
                return x.move(-1);
            case 2:
                return x.place(-1);
            case 3:
                return x.on(64, true);
            case 4:
                return x.kind(-1);
            case 5:
                return x.lines(4);
            case 6:
                return x.make(-1);
            case 7:
                return x.check() ? 1 : 0;
            default:
                return x.pinned();
        }
    }

    private static void same(String at) {
        for (int s = 0; s < 64; s++) {
            Due.answer(at + "at(" + s + ")", x.at(s), o.board[s]);
        }
        Due.answer(at + "look(0)", x.look(0), o.side);
        Due.answer(at + "look(1)", x.look(1), o.rights);
        Due.answer(at + "look(2)", x.look(2), o.passing);
    }

    /** A game of random moves, then all of them taken back. */
    private static void walk(int i, int most) {
        if (!o.playable()) {
            return;
        }
        Oracle[] before = new Oracle[most];
        int[] moves = new int[most];
        int made = 0;
        for (int n = 0; n < most; n++) {
            List<Integer> list = o.list();
            if (list.isEmpty()) {
                break;
            }
            int move = list.get(any(list.size()));
            before[made] = o;
            moves[made] = move;
            made++;
            o = o.behind(move);
            Due.answer("walk " + i + ": make(" + move + ")", x.make(move), o.list().size());
            Due.answer("walk " + i + ": look(3)", x.look(3), made);
            compare(1 + 10 * any(3) + (n % 10 == 0 ? 4 : 0));
        }
        for (int n = made - 1; n >= 0; n--) {
            o = before[n];
            Due.answer("walk " + i + ": unmake()", x.unmake(), moves[n]);
            same("walk " + i + " taken back: ");
            if (n % 4 == 0) {
                compare(1);
            }
        }
        Due.answer("walk " + i + ": unmake()", x.unmake(), -1);
        Due.answer("walk " + i + ": look(3)", x.look(3), 0);
    }
}
