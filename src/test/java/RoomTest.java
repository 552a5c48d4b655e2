import java.lang.management.ManagementFactory;

/** The room of a run: an object makes all that it holds in its constructor, and its calls make nothing. */
public final class RoomTest {
    /** Far above what one object takes, and far below what a run has for all of them. */
    private static final long MOST_OF_ONE = 40_000;
    /** Some that the machine may make by itself; a call that made one object each time would be above it. */
    private static final long MOST_OF_CALLS = 1000;
    private static final String TEXT = "r0:5=3;r0:9=-4;w30;r1:40=999;r0:1=1;";

    private static final com.sun.management.ThreadMXBean THREADS =
            (com.sun.management.ThreadMXBean) ManagementFactory.getThreadMXBean();

    private RoomTest() {
    }

    public static void main(String[] arguments) {
        // What the machine itself makes when it meets a class or a call for the first time is not the object's.
        long sum = allCalls(new BurstGrouper()) + made();
        long before = made();
        BurstGrouper x = new BurstGrouper();
        long ofOne = made() - before;
        before = made();
        sum += allCalls(x);
        long ofCalls = made() - before;
        Check.that("an object takes " + ofOne + " bytes", ofOne > 0 && ofOne <= MOST_OF_ONE);
        Check.that("the calls make " + ofCalls + " bytes", ofCalls <= MOST_OF_CALLS);
        Check.that("the calls were not made", sum != 0);
        Check.end();
    }

    private static long made() {
        return THREADS.getCurrentThreadAllocatedBytes();
    }

    /** Some 500 calls, each method at least once but errorPosition, none of which throws. */
    private static long allCalls(BurstGrouper x) {
        long sum = x.setGap(0, 12) + x.setFold(0, 1) + x.setLateness(3) + x.setTrigger(1);
        for (int k = 0; k < TEXT.length(); k++) {
            sum += x.append(TEXT.charAt(k));
        }
        sum += x.read();
        for (int k = 0; k < 90; k++) {
            sum += x.add(k % 8, 60 + 10 * k, k);
            sum += x.joined(k % 8, 60 + 10 * k);
            sum += x.regrouped(k % 8);
        }
        sum += x.save() + x.restore() + x.advance(500);
        for (int burst = 0; burst < 100; burst++) {
            sum += x.isLate(burst) ? 1 : 0;
        }
        int open = x.nextClosing();
        x.setFold(x.burst(open, 0), 3);
        sum += x.fire(open) + x.closesAt(open) + x.record(open, 0, true);
        sum += x.isClosed(open) || x.isDirty(open) ? 1 : 0;
        sum += x.burstAt(0, 0) + x.watermark() + x.lateCount() + x.recordCount() + x.burstCount() + x.openCount();
        sum += (long) x.averageLength(0) + x.mergeCount() + x.firingCount() + x.firing(0, 0) + x.firings(0);
        return sum + x.balance() + x.standing() + x.reset();
    }
}
