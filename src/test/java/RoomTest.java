import java.lang.management.ManagementFactory;

/** The room that the dearest calls of a run need. */
final class RoomTest {
    private static final int CALLS = 512;
    /** A run has room for 600,000 objects and 7.3 million elements; an element takes a byte, an object 16, at least. */
    private static final long MOST_BYTES = 7_300_000;

    /** The first round loads the classes, so only the second one is measured. */
    public static void main(String[] arguments) {
        Check.begin();
        spend();
        com.sun.management.ThreadMXBean threads = (com.sun.management.ThreadMXBean) ManagementFactory.getThreadMXBean();
        long before = threads.getThreadAllocatedBytes(Thread.currentThread().getId());
        spend();
        long spent = threads.getThreadAllocatedBytes(Thread.currentThread().getId()) - before;
        Check.holds(spent + " bytes for a run are at most " + MOST_BYTES, spent <= MOST_BYTES);
        Check.end();
    }

    private static void spend() {
        PaperBoatInsurer x = new PaperBoatInsurer();
        for (int i = 0; i < 8; i++) {
            x.insure(30, 4, 60);
            x.addOffer(i, i + 1, 9);
            x.claim(0, 'r', 1);
        }
        for (int i = 24; i < CALLS; i += 4) {
            x.isConsistent();
            x.writePolicy(i % 8);
            x.type('e');
            try {
                x.runScript();
            } catch (IllegalArgumentException malformed) {
                x.save();
            }
        }
    }
}
