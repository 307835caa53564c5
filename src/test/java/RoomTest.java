import java.lang.management.ManagementFactory;

/** All calls of a run live in one room: only new objects and exceptions may take any of it. */
final class RoomTest {
    private static final com.sun.management.ThreadMXBean THREADS =
        (com.sun.management.ThreadMXBean) ManagementFactory.getThreadMXBean();

    public static void main(String[] args) {
        allCalls(new MoveList());
        THREADS.getCurrentThreadAllocatedBytes();
        long before = THREADS.getCurrentThreadAllocatedBytes();
        MoveList x = new MoveList();
        long made = THREADS.getCurrentThreadAllocatedBytes() - before;
        // 512 objects of 12,000 bytes hold under 1.6 million elements.
        Due.answer("an object is small (bytes " + made + ")", made < 12000, true);
        before = THREADS.getCurrentThreadAllocatedBytes();
        allCalls(x);
        long taken = THREADS.getCurrentThreadAllocatedBytes() - before;
        Due.answer("calls take no room (bytes " + taken + ")", taken < 1000, true);
        Due.finish();
    }

    private static long allCalls(MoveList x) {
        long sum = 0;
        x.begin();
        for (int n = 0; n < 60 && x.count() > 0; n++) {
            int move = x.move(n * 7 % x.count());
            sum += x.kind(move) + x.place(move) + x.on(12, true) + x.pinned() + (x.check() ? 1 : 0);
            sum += x.lines(2) + x.at(n) + x.look(n % 5) + (x.playable() ? 1 : 0);
            x.make(move);
        }
        for (int n = 0; n < 60; n++) {
            sum += x.unmake();
        }
        sum += x.lines(3);
        x.clear();
        x.put(0, 6);
        x.state(0, 0, MoveList.NONE);
        return sum;
    }
}
