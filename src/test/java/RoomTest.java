import java.lang.management.ManagementFactory;

/** Questions and changes make no objects: all rows are made with the object and used again. */
public final class RoomTest {

    private static final int NONE = DrillCount.NONE;
    /** Far more than a new object takes, far less than one that makes rows at each call. */
    private static final long MOST_BYTES_MADE = 12_000;
    private static final long MOST_BYTES_USED = 2_000;

    private static long answers;

    public static void main(String[] args) {
        Check check = new Check();
        com.sun.management.ThreadMXBean meter =
                (com.sun.management.ThreadMXBean) ManagementFactory.getThreadMXBean();
        long self = Thread.currentThread().getId();
        use(new DrillCount());
        meter.getThreadAllocatedBytes(self);
        long start = meter.getThreadAllocatedBytes(self);
        DrillCount x = new DrillCount();
        long made = meter.getThreadAllocatedBytes(self);
        use(x);
        long used = meter.getThreadAllocatedBytes(self);
        check.yes("a new object takes " + (made - start) + " bytes", made - start < MOST_BYTES_MADE);
        check.yes("512 calls take " + (used - made) + " bytes", used - made < MOST_BYTES_USED);
        check.yes("something was answered", answers > 0);
        check.end("RoomTest");
    }

    private static void use(DrillCount x) {
        x.axis(0);
        x.axis(1);
        x.axis(2);
        for (int c = 0; c < 24; c++) {
            x.category(c % 2, c < 10 ? NONE : c - 10);
        }
        for (int d = 0; d < 40; d++) {
            x.document(d);
            x.tag(d, d % 24, true);
            x.tag(d, (d + 7) % 24, true);
            x.number(d, 2, d);
        }
        for (int step = 0; step < 14; step++) {
            x.select(step % 6, step % 3 > 0);
            x.move(23, step % 2 == 0 ? NONE : 13);
            x.range(2, step, step + 20);
            x.drop(2, 1);
            x.missing(2, step % 2 == 0);
            x.back();
            ask(x, step);
        }
    }

    private static void ask(DrillCount x, int step) {
        answers += x.top(0, 0, 0) + x.read(0, 2) + x.path(1, 0) + x.split() + x.cover(0, NONE);
        answers += x.bins(2, 3) + x.even(2, 3) + x.click(step, step % 3) + x.sums(step, 1);
        answers += x.nearest(step) + x.most() + x.miss(1) + x.sets(0, step % 2) + x.near(0);
        answers += x.hit(0) + x.doc(step, 3) + x.count(4) + 2;
    }
}
