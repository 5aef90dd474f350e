import java.lang.management.ManagementFactory;

/**
 * All calls of a run live in one room: what a run of dear calls makes is measured in octets. The
 * bounds are far below 7.3 million elements, for an element is at most eight octets.
 */
public final class RoomTest {
    private static final long MOST_OCTETS = 4_000_000L;

    public static void main(String[] args) {
        com.sun.management.ThreadMXBean threads =
                (com.sun.management.ThreadMXBean) ManagementFactory.getThreadMXBean();
        measure(threads, "512 new objects", RoomTest::manyObjects);
        measure(threads, "512 times begin", RoomTest::manyBegins);
        measure(threads, "full files and full tapes", RoomTest::fullTapes);
        measure(threads, "512 times restore", RoomTest::manyRestores);
        Check.end();
    }

    private static void measure(com.sun.management.ThreadMXBean threads, String what, Runnable run) {
        run.run(); // what the machine itself makes at a first time is not counted
        long before = threads.getCurrentThreadAllocatedBytes();
        run.run();
        long made = threads.getCurrentThreadAllocatedBytes() - before;
        Check.same(what + " make " + made + " octets: below the bound", made < MOST_OCTETS, true);
    }

    private static void manyObjects() {
        for (int i = 0; i < 512; i++) {
            new TapeVault().dump(0);
        }
    }

    private static void manyBegins() {
        TapeVault x = new TapeVault();
        for (int i = 0; i < 256; i++) {
            x.begin(4 + i);
            x.dump(0);
        }
    }

    private static void fullTapes() {
        TapeVault x = new TapeVault();
        for (int n = 1; n < 200; n++) {
            x.make(0, n, false);
            x.write(n, 0, n);
        }
        for (int i = 0; i < 100; i++) {
            Check.told(() -> x.dump(0));
        }
    }

    private static void manyRestores() {
        TapeVault x = new TapeVault();
        for (int n = 1; n < 200; n++) {
            x.make(0, n, true);
        }
        x.dump(0);
        for (int i = 0; i < 300; i++) {
            x.restore(0);
            x.find(true, 0, 200);
        }
    }
}
