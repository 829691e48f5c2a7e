import java.lang.management.ManagementFactory;

/** What the dearest runs of 512 calls make, in bytes: far less than the room that all calls of a run share. */
public final class RoomTest {
    /** 7.3 million elements are 14.6 million bytes even if each were a char; a quarter of that is allowed here. */
    private static final long MOST = 3_600_000;

    private static final com.sun.management.ThreadMXBean BEAN =
            (com.sun.management.ThreadMXBean) ManagementFactory.getThreadMXBean();

    public static void main(String[] args) {
        fullLoop();
        longestTraces();
        questions();
        BEAN.setThreadAllocatedMemoryEnabled(true);
        check("a full loop", () -> fullLoop());
        check("the longest traces", () -> longestTraces());
        check("questions alone", () -> questions());
        Check.end();
    }

    private static void check(String what, Runnable run) {
        long before = BEAN.getThreadAllocatedBytes(Thread.currentThread().getId());
        run.run();
        long bytes = BEAN.getThreadAllocatedBytes(Thread.currentThread().getId()) - before;
        System.out.println(what + ": " + bytes + " bytes");
        Check.isTrue(what + " stay within the room", bytes < MOST);
    }

    /** As many cars as there can be go round and round until tick 9999. */
    private static void fullLoop() {
        Lineclock x = new Lineclock();
        for (int i = 0; i < 8; i++) {
            x.addStation(1, i % 6, 1, 4);
        }
        for (int i = 0; i < 30; i++) {
            x.addCar(63);
        }
        for (int i = 0; i < 166; i++) {
            x.tick(60);
        }
        x.tick(39);
        for (int i = 0; i < 300; i++) {
            x.countOf('-');
        }
    }

    /** Each of the eight stations lets a car of its own go round in each tick: three characters, eight times. */
    private static void longestTraces() {
        Lineclock x = new Lineclock();
        for (int i = 0; i < 8; i++) {
            x.addStation(1, i % 6, 1, 4);
        }
        x.setPeriod(1);
        x.supply(0, 1);
        x.supply(1, 1);
        // The first two are fitted at stations 0 and 1, and lack the same parts at stations 6 and 7.
        x.addCar(1);
        x.addCar(2);
        for (int part = 0; part < 6; part++) {
            x.addCar(1 << part);
        }
        for (int i = 0; i < 166; i++) {
            x.tick(60);
        }
        x.tick(39);
        for (int car = 0; car < 8; car++) {
            Check.isTrue("the trace of car " + car + " is long", x.traceLength(car) > 3 * 9900);
        }
    }

    private static void questions() {
        Lineclock x = new Lineclock();
        for (int i = 0; i < 8; i++) {
            x.addStation(1 + i, -1, 0, 0);
        }
        for (int i = 0; i < 10; i++) {
            x.addCar(63);
        }
        for (int i = 0; i < 160; i++) {
            x.leavesIn(i % 10);
            x.leavesByTicks(i % 10);
            x.nextToLeave();
        }
    }
}
