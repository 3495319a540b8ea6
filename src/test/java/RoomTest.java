import java.lang.management.ManagementFactory;

/** All calls of a run share one room: the dearest ones may make hardly anything. */
public final class RoomTest {
    private static final Check CHECK = new Check();
    private static final com.sun.management.ThreadMXBean THREADS =
        (com.sun.management.ThreadMXBean) ManagementFactory.getThreadMXBean();

    public static void main(String[] args) {
        // What the machine makes when it first meets a class is not the run's.
        fill(new Mutual());
        bytes();
        long before = bytes();
        Mutual x = new Mutual();
        long made = bytes() - before;
        CHECK.due("a new object takes " + made + " bytes", made < 20000, true);
        fill(x);
        before = bytes();
        for (int i = 0; i < 30; i++) {
            x.book();
            x.award(11, 0, 0);
            x.call(11, 11, 0);
            x.law(18, 719, 0);
            x.worth(11, 8, 719, 0);
        }
        made = bytes() - before;
        CHECK.due("150 questions take " + made + " bytes", made < 4000, true);
        before = bytes();
        for (int i = 0; i < 100; i++) {
            x.vote(0, 0);
        }
        made = bytes() - before;
        CHECK.due("100 votes refused take " + made + " bytes", made < 4000, true);
        Mutual y = new Mutual();
        before = bytes();
        for (int i = 0; i < 250; i++) {
            y.feed(0, 0, 0, 0, 0);
            y.vote(1, 0);
        }
        made = bytes() - before;
        CHECK.due("250 votes at fault take " + made + " bytes", made < 250 * 400, true);
        CHECK.end();
    }

    private static void fill(Mutual x) {
        for (int i = 0; i < 12; i++) {
            x.farm(i % 10);
            for (int what = 0; what < 9; what++) {
                x.note(i, what, 0, 90);
            }
        }
        for (int i = 0; i < 12; i++) {
            x.fire(i, i);
            x.close(i);
        }
        for (int i = 0; i < 10; i++) {
            Check.vote(x, "rate hay 1; own 5; other 1 50; season barn:1,1,1,1,1,1,1,1,1,1,1,1;", 0);
        }
    }

    private static long bytes() {
        return THREADS.getThreadAllocatedBytes(Thread.currentThread().getId());
    }
}
