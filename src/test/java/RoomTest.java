import java.lang.management.ManagementFactory;

/** What a run of 512 calls makes has to fit into one room: the dearest calls are counted by the bytes they take. */
public final class RoomTest {
    /** The room holds some 7.3 million fields and elements; a run is to take a small part of it. */
    private static final long MOST_BYTES = 400_000;
    private static final com.sun.management.ThreadMXBean THREADS =
            (com.sun.management.ThreadMXBean) ManagementFactory.getThreadMXBean();

    public static void main(String[] args) {
        run();
        long before = THREADS.getCurrentThreadAllocatedBytes();
        ReviewForge forge = new ReviewForge();
        long made = THREADS.getCurrentThreadAllocatedBytes() - before;
        Expect.due(1, "a new object takes " + made + " bytes", made < 60_000, true);
        before = THREADS.getCurrentThreadAllocatedBytes();
        run();
        long taken = THREADS.getCurrentThreadAllocatedBytes() - before;
        Expect.due(1, "a run takes " + taken + " bytes", taken < MOST_BYTES, true);
        Expect.due(1, "commits()", forge.commits(), 2);
        Expect.finish("RoomTest");
    }

    /** Fills the house, and makes those calls that have most to do. */
    private static void run() {
        ReviewForge forge = new ReviewForge();
        for (int change = 0; change < 20; change++) {
            forge.put(change / 10, change % 10, change);
            forge.open(0);
            forge.take(change + 2);
        }
        for (int comment = 0; comment < 60; comment++) {
            forge.comment(comment % 6, 0, 0, 0, 0, 1, true);
        }
        for (int finding = 0; finding < 40; finding++) {
            forge.find(0, 0, 0, 0, 1, finding);
        }
        forge.addRule(14, 1, 0);
        forge.addRule(15, 16384, 32768 >> 2);
        forge.takeSet(0, 0);
        for (int set = 0; set < 30; set++) {
            forge.put(3, set % 10, set);
            forge.upload(0, 0);
            if (set % 10 == 9) {
                forge.takeSet(0, 0);
            }
        }
        forge.dropRule(0);
        forge.dropRule(2);
        for (int time = 0; time < 40; time++) {
            forge.lacks(time % 20);
            forge.land(0, 19);
            forge.shown(0, 30);
            forge.takeFixes(0, 0);
            forge.hunks(0, 0, 30, 3, true);
        }
        forge.addRule(15, 0, 0);
        for (int time = 0; time < 20; time++) {
            forge.land(0, 19);
            forge.group(19);
        }
    }
}
