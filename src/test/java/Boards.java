import java.util.List;
import java.util.function.LongSupplier;

/** What the tests set up and look at again and again. */
abstract class Boards {
    static final int NONE = -1;
    static final Class<IllegalStateException> STATE = IllegalStateException.class;
    static final Class<IllegalArgumentException> ARGUMENT = IllegalArgumentException.class;
    static final Class<IndexOutOfBoundsException> INDEX = IndexOutOfBoundsException.class;
    static final Class<UnsupportedOperationException> UNSUPPORTED = UnsupportedOperationException.class;

    static final int LEAST = Integer.MIN_VALUE;
    static final int MOST = Integer.MAX_VALUE;
    /** Those just outside, those that a mask or a remainder would bring back inside, the farthest. */
    static final int[] NO_SQUARES = {-1, 64, -2, 65, -64, 100, 127, 128, 256 + 12, 65536 + 12, LEAST, LEAST + 12, MOST};

    static final String KINGS = "4k3/8/8/8/8/8/8/4K3";
    static final String CASTLES = "r3k2r/8/8/8/8/8/8/R3K2R";
    static final String MATE = "R5k1/5ppp/8/8/8/8/8/4K3";
    static final String STALE = "k7/2Q5/1K6/8/8/8/8/8";
    /** In a row for white: no king at all, one alone, two, and theirs attacked. */
    static final String[] NOT_PLAYED = {"8/8/8/8/8/8/8/8", "8/8/8/8/8/8/8/4K3", "4k3/8/8/8/8/8/8/8",
        "4k3/8/8/8/8/8/8/3KK3", "3kk3/8/8/8/8/8/8/4K3", "4k3/8/8/8/4R3/8/8/4K3"};

    private static final String SIGNS = ".PNBRQKpnbrqk";

    static int sq(String name) {
        return name.charAt(0) - 'a' + 8 * (name.charAt(1) - '1');
    }

    /** A square by its name, or - for none. */
    static int passingSquare(String name) {
        return name.equals("-") ? NONE : sq(name);
    }

    /** A move such as e2e4, or e7e8 with a last sign: n, b, r or q. */
    static int mv(String name) {
        int kind = name.length() > 4 ? 2 + "nbrq".indexOf(name.charAt(4)) : 0;
        return sq(name.substring(0, 2)) + 64 * sq(name.substring(2, 4)) + 4096 * kind;
    }

    /** The board as chess players write it: rank 8 first, a digit for so many empty squares. */
    static void setUp(MoveList x, String board) {
        int rank = 7;
        int file = 0;
        for (char c : board.toCharArray()) {
            if (c == '/') {
                rank--;
                file = 0;
            } else if (c >= '1' && c <= '8') {
                file += c - '0';
            } else {
                x.put(8 * rank + file, SIGNS.indexOf(c));
                file++;
            }
        }
    }

    static MoveList position(String board, int side, int rights, String passing) {
        MoveList x = new MoveList();
        setUp(x, board);
        x.state(side, rights, passingSquare(passing));
        return x;
    }

    static MoveList white(String board) {
        return position(board, 0, 0, "-");
    }

    static MoveList black(String board) {
        return position(board, 1, 0, "-");
    }

    static MoveList game() {
        MoveList x = new MoveList();
        x.begin();
        return x;
    }

    static MoveList gameAfter(String... moves) {
        MoveList x = game();
        for (String move : moves) {
            x.make(mv(move));
        }
        return x;
    }

    /** A new object for the position that an oracle holds. */
    static MoveList of(Oracle o) {
        MoveList x = new MoveList();
        for (int s = 0; s < 64; s++) {
            if (o.board[s] != 0) {
                x.put(s, o.board[s]);
            }
        }
        x.state(o.side, o.rights, o.passing);
        return x;
    }

    static Oracle oracle(MoveList x) {
        Oracle o = new Oracle();
        for (int s = 0; s < 64; s++) {
            o.board[s] = x.at(s);
        }
        o.side = x.look(0);
        o.rights = x.look(1);
        o.passing = x.look(2);
        return o;
    }

    static long put(MoveList x, int square, int piece) {
        x.put(square, piece);
        return 0;
    }

    static long state(MoveList x, int side, int rights, int passing) {
        x.state(side, rights, passing);
        return 0;
    }

    static void looks(String what, MoveList x, int side, int rights, int passing, int made) {
        Due.answer(what + ": look(0)", x.look(0), side);
        Due.answer(what + ": look(1)", x.look(1), rights);
        Due.answer(what + ": look(2)", x.look(2), passing);
        Due.answer(what + ": look(3)", x.look(3), made);
    }

    /** All is as at first. */
    static void asAtFirst(String what, MoveList x) {
        for (int s = 0; s < 64; s++) {
            Due.answer(what + ": at(" + s + ")", x.at(s), 0);
        }
        looks(what, x, 0, 0, NONE, 0);
        Due.answer(what + ": playable()", x.playable(), false);
        Due.thrown(what + ": count()", STATE, x::count);
        Due.answer(what + ": unmake()", x.unmake(), NONE);
    }

    /** A game begins. */
    static void beginning(String what, MoveList x) {
        int[] rank = {4, 2, 3, 5, 6, 3, 2, 4};
        for (int s = 0; s < 64; s++) {
            int due = s < 8 ? rank[s] : s < 16 ? 1 : s >= 56 ? rank[s - 56] + 6 : s >= 48 ? 7 : 0;
            Due.answer(what + ": at(" + s + ")", x.at(s), due);
        }
        looks(what, x, 0, 15, NONE, 0);
        Due.answer(what + ": playable()", x.playable(), true);
        Due.answer(what + ": count()", x.count(), 20);
        Due.answer(what + ": unmake()", x.unmake(), NONE);
    }

    static void legal(MoveList x, String name, boolean due) {
        legal(oracle(x).toString(), x, mv(name), due);
    }

    static void legal(String what, MoveList x, int move, boolean due) {
        int place = x.place(move);
        Due.answer(what + ": " + move + " is legal", place != NONE, due);
        if (due && place != NONE) {
            Due.answer(what + ": move(" + place + ")", x.move(place), move);
        }
    }

    /** The list is the oracle's, move by move. */
    static void sameList(MoveList x) {
        Oracle o = oracle(x);
        List<Integer> list = o.list();
        int count = x.count();
        Due.answer(o + ": count()", count, list.size());
        for (int i = 0; i < list.size() && i < count; i++) {
            Due.answer(o + ": move(" + i + ")", x.move(i), list.get(i));
        }
    }

    /** All that can be asked without changing anything. */
    static String picture(MoveList x) {
        StringBuilder b = new StringBuilder();
        for (int s = 0; s < 64; s++) {
            b.append(x.at(s)).append(' ');
        }
        for (int which = 0; which < 4; which++) {
            b.append(x.look(which)).append(' ');
        }
        boolean playable = x.playable();
        b.append(playable);
        int count = playable ? x.count() : 0;
        for (int i = 0; i < count; i++) {
            b.append(' ').append(x.move(i));
        }
        return b.toString();
    }

    /** The call throws just this, and changes nothing. */
    static void refused(String what, Class<? extends RuntimeException> due, MoveList x, LongSupplier call) {
        String before = picture(x);
        Due.thrown(what, due, call);
        Due.answer(what + ", refused, then all", picture(x), before);
    }

    /** Puts the kings that an oracle's board lacks where nothing attacks them and they are in no line's way. */
    static void addQuietKings(Oracle o) {
        for (int first = 0; first < 64; first++) {
            if (!isQuiet(o, first)) {
                continue;
            }
            for (int second = 63; second >= 0; second--) {
                if (second != first && isQuiet(o, second) && apart(first, second) > 1) {
                    o.board[first] = 6;
                    o.board[second] = 12;
                    return;
                }
            }
        }
        throw new IllegalStateException("no room for quiet kings");
    }

    private static boolean isQuiet(Oracle o, int square) {
        for (int s = 0; s < 64; s++) {
            if (o.board[s] == 0) {
                continue;
            }
            int files = Math.abs(s % 8 - square % 8);
            int ranks = Math.abs(s / 8 - square / 8);
            if (files == 0 || ranks == 0 || files == ranks || files + ranks == 3) {
                return false;
            }
        }
        return square != o.passing;
    }

    /** How many steps a king would need. */
    static int apart(int a, int b) {
        return Math.max(Math.abs(a % 8 - b % 8), Math.abs(a / 8 - b / 8));
    }
}
