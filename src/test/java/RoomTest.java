import java.lang.management.ManagementFactory;
import java.util.List;

/**
 * What the dearest run makes, for all calls of a run live in one room. What the machine lays out is looked at: a field
 * or an element takes a byte at least, so a run that takes no more bytes than the room has fields and elements fits,
 * and since an object takes 16 bytes at least, it makes fewer than 600,000 of them.
 */
public final class RoomTest {
    private static final long MOST_BYTES = 7_300_000;
    private static final int CALLS = 512;
    private static final int ACTS = 12;

    private static int calls = 0;

    public static void main(String[] args) {
        long dearest = 0;
        for (int run = 0; run < 2 * ACTS; run++) {
            long before = bytesMade();
            dearestRun(run % ACTS);
            long made = bytesMade() - before;
            // the first runs load classes, too
            dearest = run < ACTS ? 0 : Math.max(dearest, made);
        }
        System.out.println("RoomTest: " + dearest + " bytes made by the dearest run");
        if (dearest <= 0 || dearest > MOST_BYTES) {
            System.out.println("that is more than the room holds for sure, or none");
            System.exit(1);
        }
    }

    private static long bytesMade() {
        com.sun.management.ThreadMXBean threads = (com.sun.management.ThreadMXBean) ManagementFactory.getThreadMXBean();
        return threads.getThreadAllocatedBytes(Thread.currentThread().getId());
    }

    /** All grids, views and layers that there can be, and then one act, or a call that throws, to the last call. */
    private static void dearestRun(int act) {
        GridStore store = new GridStore();
        calls = 0;
        for (int grid = 0; grid < 8; grid++) {
            store.grid(48, 40);
            store.fill(grid, 0, 0, 48, 40, grid);
            calls += 2;
        }
        for (int view = 0; view < 12; view++) {
            store.view(view == 0 ? 0 : 99 + view, 0, 0, 40, 40, 1, true);
            calls++;
        }
        for (int layer = 0; layer < 160; layer++) {
            store.keep(layer % 8);
            calls++;
        }
        List<Runnable> acts = List.of(() -> store.slide(0, 4, 7), () -> store.join(1, 2, 0, 7),
            () -> store.back(7, 19), () -> store.fill(111, 0, 0, 40, 40, calls), () -> store.differ(7, -1, 0),
            () -> store.sum(111, 20, 20, 9), () -> store.count(4), () -> store.lose(calls % 5, calls % 2 == 0),
            () -> store.get(0, 48, 0), () -> store.grid(1, 1), () -> store.keep(7), () -> store.read(111, 0, 0, 41, 1));
        while (calls < CALLS) {
            call(acts.get(act));
        }
    }

    private static void call(Runnable one) {
        calls++;
        try {
            one.run();
        } catch (RuntimeException e) {
            // what is thrown is made, too
        }
    }
}
