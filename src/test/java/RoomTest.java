import com.sun.management.ThreadMXBean;
import java.lang.management.ManagementFactory;

/** A run has room for some 600,000 objects in all: an object makes its rows when it is made, and its calls make none. */
final class RoomTest {
    private static final long MOST_BYTES_OF_A_NEW_ONE = 40_000;
    /** What the measuring itself may make. */
    private static final long MOST_BYTES_OF_CALLS = 2_000;

    private static long sink;

    public static void main(String[] args) {
        Check check = new Check("RoomTest");
        ThreadMXBean threads = (ThreadMXBean) ManagementFactory.getThreadMXBean();
        long made = 0;
        long called = 0;
        for (int round = 0; round < 5; round++) {
            long before = threads.getCurrentThreadAllocatedBytes();
            PlateCuts x = new PlateCuts();
            long between = threads.getCurrentThreadAllocatedBytes();
            callAll(x);
            made = between - before;
            called = threads.getCurrentThreadAllocatedBytes() - between;
        }
        check.holds("a new one takes " + made + " bytes", made <= MOST_BYTES_OF_A_NEW_ONE);
        check.holds("calls take " + called + " bytes", called <= MOST_BYTES_OF_CALLS);
        check.finish();
    }

    /** Every call of the face, with the dearest plate. */
    private static void callAll(PlateCuts x) {
        feedAll(x);
        sink += x.plate(7, 7) + x.kerf(0) + x.part(1, 1, 3, true) + x.part(3, 2, 20, true) + x.renew(0, 2, 4);
        sink += x.turn(0, false) + x.defect(1, 1) + x.mend() + x.defect(3, 2) + x.defect(5, 5);
        sink += x.see(0, 4) + x.event(1, 11) + x.event(2, 0) + x.book(1, 2) + x.image();
        for (int i = 0; i < 10; i++) {
            sink += x.kerf(i % 3) + x.of(1, 4) + x.best(0, 0, 7, 7) + x.is(0, 0, 1, 1) + x.told(i) + x.node(i, i);
            sink += x.picture(i, 1) + x.staged(3, i & 1) + x.sizes(i & 1) + x.more(i & 1) + x.bound(i & 1);
            sink += x.fits(0, 0) + x.odds(1, 1) + x.mean(0) + x.after(i % 3) + x.looked() + x.judge(0, 0);
            sink += x.tape(0, 3, 60) + x.tape(1, 3, 60) + x.item(0, i, i) + x.peek(0, i) + x.shift(0, 0, 1, 1, 50);
            sink += x.undo() + x.count(i);
        }
    }

    private static void feedAll(PlateCuts x) {
        for (int i = 0; i < 12; i++) {
            sink += x.feed('k') + x.feed('0' + i % 4) + x.feed(';');
        }
        sink += x.read();
    }
}
