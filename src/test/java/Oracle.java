import java.util.ArrayList;
import java.util.List;

/**
 * The document's terms written out as slowly and plainly as they can be: every from, to and kind is
 * tried, each move is made on a copy. What MoveList answers is compared with this.
 */
final class Oracle {
    final int[] board = new int[64];
    int side = 0;
    int rights = 0;
    int passing = -1;

    /** The board as chess players write it, rank 8 first, a dot for an empty square; then the state. */
    @Override
    public String toString() {
        StringBuilder b = new StringBuilder();
        for (int r = 7; r >= 0; r--) {
            for (int f = 0; f < 8; f++) {
                b.append(".PNBRQKpnbrqk".charAt(board[8 * r + f]));
            }
            b.append(r > 0 ? '/' : ' ');
        }
        return b.append(side).append(' ').append(rights).append(' ').append(passing).toString();
    }

    static Oracle beginning() {
        Oracle o = new Oracle();
        int[] rank = {4, 2, 3, 5, 6, 3, 2, 4};
        for (int f = 0; f < 8; f++) {
            o.board[f] = rank[f];
            o.board[8 + f] = 1;
            o.board[48 + f] = 7;
            o.board[56 + f] = rank[f] + 6;
        }
        o.rights = 15;
        return o;
    }

    Oracle copy() {
        Oracle o = new Oracle();
        System.arraycopy(board, 0, o.board, 0, 64);
        o.side = side;
        o.rights = rights;
        o.passing = passing;
        return o;
    }

    static int colour(int piece) {
        return piece == 0 ? -1 : piece <= 6 ? 0 : 1;
    }

    static int type(int piece) {
        return piece == 0 ? 0 : (piece - 1) % 6 + 1;
    }

    static int sign(int n) {
        return n > 0 ? 1 : n < 0 ? -1 : 0;
    }

    /** Whether all squares strictly between two on one line are empty. */
    boolean clearBetween(int a, int b) {
        int df = sign(b % 8 - a % 8);
        int dr = sign(b / 8 - a / 8);
        int f = a % 8 + df;
        int r = a / 8 + dr;
        while (f != b % 8 || r != b / 8) {
            if (board[r * 8 + f] != 0) {
                return false;
            }
            f += df;
            r += dr;
        }
        return true;
    }

    /** Whether the piece that stands on from ATTACKS to. */
    boolean attacks(int from, int to) {
        if (from == to) {
            return false;
        }
        int piece = board[from];
        int df = to % 8 - from % 8;
        int dr = to / 8 - from / 8;
        int af = Math.abs(df);
        int ar = Math.abs(dr);
        switch (type(piece)) {
            case 1:
                return af == 1 && dr == (colour(piece) == 0 ? 1 : -1);
            case 2:
                return af == 1 && ar == 2 || af == 2 && ar == 1;
            case 3:
                return af == ar && clearBetween(from, to);
            case 4:
                return (af == 0 || ar == 0) && clearBetween(from, to);
            case 5:
                return (af == ar || af == 0 || ar == 0) && clearBetween(from, to);
            case 6:
                return af <= 1 && ar <= 1;
            default:
                return false;
        }
    }

    boolean attackedBy(int who, int square) {
        for (int s = 0; s < 64; s++) {
            if (colour(board[s]) == who && attacks(s, square)) {
                return true;
            }
        }
        return false;
    }

    int king(int who) {
        int found = -1;
        for (int s = 0; s < 64; s++) {
            if (board[s] == (who == 0 ? 6 : 12)) {
                if (found >= 0) {
                    return -1;
                }
                found = s;
            }
        }
        return found;
    }

    boolean playable() {
        return king(0) >= 0 && king(1) >= 0 && !attackedBy(side, king(1 - side));
    }

    boolean takesInPassing(int from, int to) {
        if (type(board[from]) != 1 || to != passing || board[to] != 0 || !attacks(from, to)) {
            return false;
        }
        int back = side == 0 ? to - 8 : to + 8;
        return back >= 0 && back < 64 && board[back] == (side == 0 ? 7 : 1);
    }

    boolean castles(int from, int to) {
        int home = side == 0 ? 4 : 60;
        if (type(board[from]) != 6 || from != home || to != home + 2 && to != home - 2) {
            return false;
        }
        boolean shortSide = to > from;
        int right = (side == 0 ? 1 : 4) * (shortSide ? 1 : 2);
        int corner = shortSide ? home + 3 : home - 4;
        return (rights & right) != 0
            && board[corner] == (side == 0 ? 4 : 10)
            && clearBetween(from, corner)
            && !attackedBy(1 - side, from)
            && !attackedBy(1 - side, (from + to) / 2);
    }

    boolean pawnGoes(int from, int to) {
        int on = side == 0 ? 8 : -8;
        if (to == from + on && board[to] == 0) {
            return true;
        }
        if (from / 8 == (side == 0 ? 1 : 6) && to == from + 2 * on && board[from + on] == 0 && board[to] == 0) {
            return true;
        }
        return attacks(from, to) && colour(board[to]) == 1 - side || takesInPassing(from, to);
    }

    /** Whether the piece goes so, the king's safety and the kind left aside. */
    boolean goes(int from, int to) {
        if (colour(board[from]) != side || colour(board[to]) == side || type(board[to]) == 6) {
            return false;
        }
        if (type(board[from]) == 1) {
            return pawnGoes(from, to);
        }
        return attacks(from, to) || castles(from, to);
    }

    /** The position behind a move that goes so. */
    Oracle behind(int from, int to, int kind) {
        Oracle o = copy();
        int piece = board[from];
        if (takesInPassing(from, to)) {
            o.board[side == 0 ? to - 8 : to + 8] = 0;
        }
        if (castles(from, to)) {
            int corner = to > from ? from + 3 : from - 4;
            o.board[(from + to) / 2] = board[corner];
            o.board[corner] = 0;
        }
        o.board[from] = 0;
        o.board[to] = kind == 0 ? piece : kind + 6 * side;
        if (piece == 6) {
            o.rights &= 12;
        }
        if (piece == 12) {
            o.rights &= 3;
        }
        int[] corners = {7, 0, 63, 56};
        for (int i = 0; i < 4; i++) {
            if (from == corners[i] || to == corners[i]) {
                o.rights &= ~(1 << i);
            }
        }
        o.passing = -1;
        if (type(piece) == 1 && Math.abs(from - to) == 16) {
            int passed = (from + to) / 2;
            for (int s = 0; s < 64; s++) {
                if (o.board[s] == (side == 0 ? 7 : 1) && o.attacks(s, passed)) {
                    o.passing = passed;
                }
            }
        }
        o.side = 1 - side;
        return o;
    }

    Oracle behind(int move) {
        return behind(move % 64, move / 64 % 64, move / 4096);
    }

    List<Integer> list() {
        List<Integer> all = new ArrayList<>();
        for (int from = 0; from < 64; from++) {
            for (int to = 0; to < 64; to++) {
                if (!goes(from, to) || !safe(from, to)) {
                    continue;
                }
                boolean last = type(board[from]) == 1 && to / 8 == (side == 0 ? 7 : 0);
                for (int kind = last ? 2 : 0; kind <= (last ? 5 : 0); kind++) {
                    all.add(from + 64 * to + 4096 * kind);
                }
            }
        }
        return all;
    }

    private boolean safe(int from, int to) {
        Oracle o = behind(from, to, 0);
        return !o.attackedBy(1 - side, o.king(side));
    }

    int kind(int move) {
        int from = move % 64;
        int to = move / 64 % 64;
        int sum = 0;
        if (board[to] != 0 || takesInPassing(from, to)) {
            sum += 1;
        }
        if (takesInPassing(from, to)) {
            sum += 2;
        }
        if (castles(from, to)) {
            sum += 4;
        }
        if (move / 4096 != 0) {
            sum += 8;
        }
        Oracle o = behind(move);
        if (o.check()) {
            sum += 16;
        }
        if (o.list().isEmpty()) {
            sum += 32;
        }
        return sum;
    }

    boolean check() {
        return attackedBy(1 - side, king(side));
    }

    long lines(int depth) {
        if (depth == 0) {
            return 1;
        }
        long sum = 0;
        for (int move : list()) {
            sum += behind(move).lines(depth - 1);
        }
        return sum;
    }

    /** A piece is pinned if a bishop, rook or queen attacks the king without it, and not with it. */
    long pinned() {
        long bits = 0;
        int king = king(side);
        for (int s = 0; s < 64; s++) {
            if (colour(board[s]) != side || s == king) {
                continue;
            }
            Oracle o = copy();
            o.board[s] = 0;
            for (int a = 0; a < 64; a++) {
                int type = type(board[a]);
                if (colour(board[a]) == 1 - side && type >= 3 && type <= 5
                        && !attacks(a, king) && o.attacks(a, king)) {
                    bits |= 1L << s;
                }
            }
        }
        return bits;
    }
}
