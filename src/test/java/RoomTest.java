import java.lang.management.ManagementFactory;

/** All calls of one run live in one room: the dearest calls, as often as a run has calls, make next to nothing. */
public final class RoomTest {
    private static final Due due = new Due("RoomTest");
    private static final int CALLS = 512;

    public static void main(String[] args) {
        dearestCalls();
        manyObjects();
        due.end();
    }

    private static long bytesMade() {
        com.sun.management.ThreadMXBean bean =
            (com.sun.management.ThreadMXBean) ManagementFactory.getThreadMXBean();
        return bean.getThreadAllocatedBytes(Thread.currentThread().getId());
    }

    private static void dearestCalls() {
        long before = bytesMade();
        HexTable x = new HexTable(3);
        int sum = 0;
        for (int n = 0; n < CALLS; n++) {
            switch (n % 6) {
                case 0: sum += x.search(8000); break;
                case 1: sum += x.load(); break;
                case 2: sum += x.check(1); break;
                case 3: sum += x.about(5); break;
                case 4: sum += x.play(2, 2) ? x.undo() : 0; break;
                default: sum += x.plant(3, n); break;
            }
        }
        long made = bytesMade() - before;
        due.is("ran", sum > 0, true);
        due.is("bytes of one run, " + made, made < 2000000, true);
    }

    private static void manyObjects() {
        long before = bytesMade();
        int sum = 0;
        for (int n = 0; n < CALLS; n++) {
            sum += new HexTable(11).about(0);
        }
        long made = bytesMade() - before;
        due.is("ran", sum, 11 * CALLS);
        due.is("bytes of many objects, " + made, made < 8000000, true);
    }
}
