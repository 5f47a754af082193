import java.lang.management.ManagementFactory;

/**
 * All calls of a run live in one room of some 7.3 million fields and elements, which nothing leaves:
 * the 512 dearest calls on an object may not fill it.
 */
public final class RoomTest {
    private static final long ROOM = 7_300_000L * 4;
    private static final com.sun.management.ThreadMXBean BEAN =
            (com.sun.management.ThreadMXBean) ManagementFactory.getThreadMXBean();

    public static void main(String[] args) {
        Due due = new Due("RoomTest");
        long start = BEAN.getCurrentThreadAllocatedBytes();
        work(new HaulFlows());
        long taken = BEAN.getCurrentThreadAllocatedBytes() - start;
        due.is("512 calls take less than the room of " + ROOM + " bytes: " + taken, taken < ROOM, true);
        due.end();
    }

    private static void work(HaulFlows x) {
        for (int i = 0; i < 8; i++) {
            x.cut(1000 + i, i % 4, i % 3, 100 * i);
            x.fill(900 + i, 3 + i, 100 * i + 50);
            x.way(10 * i, 90 * i, 3);
        }
        for (int round = 0; round < 60; round++) {
            x.most(3, round % 2 == 0 ? 10 : 10000);
            x.run(96);
            x.clash(0);
            x.dual(0, 0, 0);
            x.dual(1, 0, 0);
            x.closure(0, 0);
            x.list(3, 0, 2);
            x.check();
        }
    }
}
