import java.util.List;
import java.util.Random;
import java.util.function.LongSupplier;

/** Runs of up to 512 calls on new objects, right and wrong ones mixed, every answer compared with the Model's. */
final class RunsTest extends Boards {
    private static final int CALLS = 512;
    private static final int[] WILD = {-1, 64, -2, 13, 16, 4, LEAST, MOST, 4096, 65536};

    private static Random random;
    private static MoveList x;
    private static Model model;
    private static String told;

    public static void main(String[] args) {
        for (int run = 0; run < 300 && Due.allRight(); run++) {
            random = new Random(6181118 + run);
            x = new MoveList();
            model = new Model();
            for (int call = 0; call < CALLS && Due.allRight(); call++) {
                told = "run " + run + ", call " + call + ": ";
                oneCall(call, run % 3);
            }
        }
        Due.finish();
    }

    private static int any(int n) {
        return random.nextInt(n);
    }

    /** One of n, or now and then something wild. */
    private static int some(int n) {
        return any(12) == 0 ? WILD[any(WILD.length)] : any(n);
    }

    /** Sort 0 sets up all the time, sort 1 plays games from the beginning, sort 2 plays on from what it set up. */
    private static void oneCall(int call, int sort) {
        boolean stuck = call >= 14 && any(8) == 0 && !model.now().playable();
        if (sort == 1 && call == 0 || stuck) {
            both("begin()", () -> run(x::begin), model::begin);
        } else if (sort != 1 && call < 14 || sort == 0 && any(6) == 0 || any(sort == 1 ? 2000 : 60) == 0) {
            setUp(call);
        } else if (any(3) < (sort == 1 ? 2 : 1)) {
            play(sort);
        } else {
            ask();
        }
    }

    private static void setUp(int call) {
        if (call < 2) {
            putPiece(any(3) == 0 ? 4 + 56 * call : any(64), 6 + 6 * call);
            return;
        }
        switch (any(call < 14 ? 8 : 12)) {
            case 0:
            case 11:
                setState();
                break;
            case 8:
                both("clear()", () -> run(x::clear), model::clear);
                break;
            case 9:
                both("begin()", () -> run(x::begin), model::begin);
                break;
            case 10:
                putPiece(some(64), 0);
                break;
            default:
                putPiece(any(4) == 0 ? new int[] {0, 7, 56, 63}[any(4)] : some(64), any(20) == 0 ? some(13) : 1 + any(5) + 6 * any(2));
                break;
        }
    }

    private static long run(Runnable call) {
        call.run();
        return 0;
    }

    private static void putPiece(int square, int piece) {
        both("put(" + square + ", " + piece + ")", () -> put(x, square, piece), () -> model.put(square, piece));
    }

    private static void setState() {
        int side = some(2);
        int rights = any(2) == 0 ? 15 : some(16);
        int passing = any(3) == 0 ? NONE : some(64);
        both("state(" + side + ", " + rights + ", " + passing + ")", () -> state(x, side, rights, passing),
            () -> model.state(side, rights, passing));
    }

    private static void play(int sort) {
        int move = someMove();
        if (any(sort == 1 ? 30 : 4) == 0) {
            both("unmake()", () -> x.unmake(), model::unmake);
        } else {
            both("make(" + move + ")", () -> x.make(move), () -> model.make(move));
        }
    }

    /** Most often a legal one; else near to one, or wild. */
    private static int someMove() {
        Oracle o = model.now();
        List<Integer> list = o.playable() ? o.list() : List.of();
        if (list.isEmpty() || any(15) == 0) {
            return some(6 * 4096);
        }
        int move = list.get(any(list.size()));
        return any(15) == 0 ? move ^ 1 << any(32) : move;
    }

    private static void ask() {
        int move = someMove();
        int square = some(64);
        boolean which = any(2) == 0;
        int depth = some(3);
        int i = some(40);
        int look = some(4);
        switch (any(11)) {
            case 0:
                both("playable()", () -> x.playable() ? 1 : 0, model::playable);
                break;
            case 1:
                both("count()", () -> x.count(), model::count);
                break;
            case 2:
                both("move(" + i + ")", () -> x.move(i), () -> model.move(i));
                break;
            case 3:
                both("place(" + move + ")", () -> x.place(move), () -> model.place(move));
                break;
            case 4:
                both("on(" + square + ", " + which + ")", () -> x.on(square, which), () -> model.on(square, which));
                break;
            case 5:
                both("kind(" + move + ")", () -> x.kind(move), () -> model.kind(move));
                break;
            case 6:
                both("lines(" + depth + ")", () -> x.lines(depth), () -> model.lines(depth));
                break;
            case 7:
                both("at(" + square + ")", () -> x.at(square), () -> model.at(square));
                break;
            case 8:
                both("check()", () -> x.check() ? 1 : 0, model::check);
                break;
            case 9:
                both("pinned()", () -> x.pinned(), model::pinned);
                break;
            default:
                both("look(" + look + ")", () -> x.look(look), () -> model.look(look));
                break;
        }
    }

    private static void both(String call, LongSupplier got, LongSupplier due) {
        Due.answer(told + call + " on " + model.now(), outcome(got), outcome(due));
    }

    private static String outcome(LongSupplier call) {
        try {
            return Long.toString(call.getAsLong());
        } catch (RuntimeException e) {
            return "throws." + e.getClass().getSimpleName();
        }
    }
}
