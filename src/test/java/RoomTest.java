import java.lang.management.ManagementFactory;

/** All calls of one run share one room, so what objects and calls take of it is measured. */
public final class RoomTest {
    private static final int NONE = EscapeCells.NONE;
    private static final int CALLS = 512;
    // An element of the class's arrays takes four bytes at most; the room has 7.3 million in all.
    private static final long OBJECT_BYTES = 500_000;
    private static final long CALLS_BYTES = 50_000;
    private static final Check check = new Check("RoomTest");

    private static long allocated() {
        com.sun.management.ThreadMXBean bean =
            (com.sun.management.ThreadMXBean) ManagementFactory.getThreadMXBean();
        return bean.getThreadAllocatedBytes(Thread.currentThread().getId());
    }

    public static void main(String[] args) {
        // Once before it is measured, so that loading classes is not counted.
        crowd(false);
        crowd(true);
        check.finish();
    }

    private static void crowd(boolean measured) {
        long start = allocated();
        EscapeCells x = new EscapeCells(24, 24);
        long made = allocated();
        int calls = 0;
        x.exit(23, 23, 1);
        x.exit(22, 1, 1);
        calls += 2;
        for (int i = 0; i < 60; i++) {
            x.person(i % 8, i / 8, 1 + i % 5, i % 7);
            calls++;
        }
        int answers = 0;
        for (; calls + 7 <= CALLS; calls += 7) {
            x.smoke(10, 10, calls % 2 == 0 ? NONE : 3600);
            x.wall(12, 12, calls % 2 == 0);
            answers += x.run() + x.at(0, 3600, 0) + x.left(20) + x.signs() + x.walk(0, 0, 1);
        }
        long end = allocated();
        if (measured) {
            check.holds("there were answers", answers != 0);
            check.holds("an object takes " + (made - start) + " bytes", made - start <= OBJECT_BYTES);
            check.holds("its calls take " + (end - made) + " bytes", end - made <= CALLS_BYTES);
            System.out.println("RoomTest: object " + (made - start) + " bytes, calls " + (end - made) + " bytes");
        }
    }
}
