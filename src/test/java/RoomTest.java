import java.lang.management.ManagementFactory;

/** A run lives in one room: after an object has been made, its calls make nothing more. */
public final class RoomTest {
    private static final Check CHECK = new Check("RoomTest");
    private static final long A_NEW_OBJECT = 20_000, ALL_CALLS = 20_000;

    public static void main(String[] args) {
        dearCalls(Check.of("a;o99;o99;o99;o99;o99;o99"));
        long start = allocated();
        GuardAbacus x = new GuardAbacus();
        long made = allocated() - start;
        CHECK.holds("a new object is small: " + made, made < A_NEW_OBJECT);
        x = Check.of("a;o91;o91;o91;o91;o91;o91");
        start = allocated();
        int sum = dearCalls(x);
        long more = allocated() - start;
        CHECK.holds("512 calls make nothing: " + more + " by " + sum, more < ALL_CALLS);
        CHECK.end();
    }

    private static long allocated() {
        var bean = (com.sun.management.ThreadMXBean) ManagementFactory.getThreadMXBean();
        return bean.getThreadAllocatedBytes(Thread.currentThread().getId());
    }

    private static int dearCalls(GuardAbacus x) {
        int sum = 0;
        for (int t = 0; t < 32; t++) {
            sum += x.sheet(1, 2, 60);
            sum += x.put(1, t, t);
            sum += x.day(1, 2, 0, 20, 0);
            sum += x.order(1, 2, 0, 6, 5);
            sum += x.fewest(1, 2, 10, 8, 999);
            sum += x.added(1, 2, 0, 10, 2);
            sum += x.frame(0, 0, 0, 25);
            sum += x.reading(t, 0, 1);
            sum += x.mens(5);
            sum += x.kinds(5);
            sum += (int) x.odds(54, 0);
            sum += x.add(999);
            sum += x.take(99);
            sum += x.copy(1, 0, 1, 1, 59);
            sum += x.tell(3);
            sum += x.turn(0);
        }
        return sum;
    }
}
