import java.util.ArrayDeque;
import java.util.Deque;

/** The document's calls over the Oracle, with their exceptions: what a run of calls is compared with. */
final class Model {
    private Oracle now = new Oracle();
    private final Deque<Oracle> before = new ArrayDeque<>();
    private final Deque<Integer> moves = new ArrayDeque<>();

    Oracle now() {
        return now;
    }

    private void forget() {
        before.clear();
        moves.clear();
    }

    private void needPlayed() {
        if (!now.playable()) {
            throw new IllegalStateException();
        }
    }

    private void needLegal(int move) {
        needPlayed();
        if (!now.list().contains(move)) {
            throw new IllegalArgumentException();
        }
    }

    long clear() {
        forget();
        now = new Oracle();
        return 0;
    }

    long begin() {
        forget();
        now = Oracle.beginning();
        return 0;
    }

    long put(int square, int piece) {
        if (square < 0 || square > 63) {
            throw new IndexOutOfBoundsException();
        }
        if (piece < 0 || piece > 12) {
            throw new IllegalArgumentException();
        }
        forget();
        now = now.copy();
        now.board[square] = piece;
        return 0;
    }

    long state(int side, int rights, int passing) {
        if (side < 0 || side > 1 || rights < 0 || rights > 15 || passing < -1 || passing > 63) {
            throw new IllegalArgumentException();
        }
        forget();
        now = now.copy();
        now.side = side;
        now.rights = rights;
        now.passing = passing;
        return 0;
    }

    long playable() {
        return now.playable() ? 1 : 0;
    }

    long count() {
        needPlayed();
        return now.list().size();
    }

    long move(int i) {
        needPlayed();
        if (i < 0 || i >= now.list().size()) {
            throw new IndexOutOfBoundsException();
        }
        return now.list().get(i);
    }

    long place(int move) {
        needPlayed();
        return now.list().indexOf(move);
    }

    long on(int square, boolean which) {
        needPlayed();
        return now.list().stream().filter(m -> (which ? m % 64 : m / 64 % 64) == square).count();
    }

    long kind(int move) {
        needLegal(move);
        return now.kind(move);
    }

    long lines(int depth) {
        needPlayed();
        if (depth < 0 || depth > 3) {
            throw new IllegalArgumentException();
        }
        return now.lines(depth);
    }

    long make(int move) {
        needLegal(move);
        if (moves.size() == 200) {
            throw new UnsupportedOperationException();
        }
        before.push(now);
        moves.push(move);
        now = now.behind(move);
        return now.list().size();
    }

    long unmake() {
        if (moves.isEmpty()) {
            return -1;
        }
        now = before.pop();
        return moves.pop();
    }

    long at(int square) {
        return square < 0 || square > 63 ? -1 : now.board[square];
    }

    long check() {
        needPlayed();
        return now.check() ? 1 : 0;
    }

    long pinned() {
        needPlayed();
        return now.pinned();
    }

    long look(int which) {
        switch (which) {
            case 0:
                return now.side;
            case 1:
                return now.rights;
            case 2:
                return now.passing;
            case 3:
                return moves.size();
            default:
                return -1;
        }
    }
}
