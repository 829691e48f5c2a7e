import java.lang.management.ManagementFactory;

/** What the dearest runs of 512 calls make, in bytes: far less than the room that all calls of a run share. */
public final class RoomTest {
    /** 7.3 million elements are 14.6 million bytes even if each were a char; a quarter of that is allowed here. */
    private static final long MOST = 3_600_000;

    private static final com.sun.management.ThreadMXBean BEAN =
            (com.sun.management.ThreadMXBean) ManagementFactory.getThreadMXBean();

    public static void main(String[] args) {
        longestTraces();
        questions();
        BEAN.setThreadAllocatedMemoryEnabled(true);
        check("the longest traces", () -> longestTraces());
        check("questions alone", () -> questions());
        Check.end();
    }

    private static void check(String what, Runnable run) {
        long before = BEAN.getThreadAllocatedBytes(Thread.currentThread().getId());
        run.run();
        long bytes = BEAN.getThreadAllocatedBytes(Thread.currentThread().getId()) - before;
        System.out.println(what + ": " + bytes + " bytes");
        Check.isTrue(what + " stay within the room", bytes < MOST);
    }

    /** As many cars as can go round and round until tick 9999. */
    private static void longestTraces() {
        Lineclock x = new Lineclock();
        for (int i = 0; i < 8; i++) {
            x.addStation(1, i % 6, 1, 4);
        }
        for (int i = 0; i < 30; i++) {
            x.addCar(63);
        }
        for (int i = 0; i < 166; i++) {
            x.tick(60);
        }
        x.tick(39);
        for (int i = 0; i < 300; i++) {
            x.countOf('-');
        }
    }

    private static void questions() {
        Lineclock x = new Lineclock();
        for (int i = 0; i < 8; i++) {
            x.addStation(1 + i, -1, 0, 0);
        }
        for (int i = 0; i < 10; i++) {
            x.addCar(63);
        }
        for (int i = 0; i < 160; i++) {
            x.leavesIn(i % 10);
            x.leavesByTicks(i % 10);
            x.nextToLeave();
        }
    }
}
