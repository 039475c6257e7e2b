import com.sun.management.ThreadMXBean;
import java.lang.management.ManagementFactory;

/** A run lives in one room (7.3 million fields and elements), so that calls use again what the constructor made. */
public final class RoomTest {
    private static final Check check = new Check("room");
    private static final ThreadMXBean bean = (ThreadMXBean) ManagementFactory.getThreadMXBean();

    public static void main(String[] args) {
        warmUp();
        long[] marks = new long[5];
        marks[0] = bytes();
        PastTree x = new PastTree();
        marks[1] = bytes();
        grow(x);
        marks[2] = bytes();
        askAll(x);
        marks[3] = bytes();
        comeUpOften(x);
        marks[4] = bytes();
        check.that("a new object is small: " + (marks[1] - marks[0]), marks[1] - marks[0] < 60_000);
        check.that("at most the pages come: " + (marks[2] - marks[1]), marks[2] - marks[1] < 40_000);
        check.that("questions make nothing: " + (marks[3] - marks[2]), marks[3] - marks[2] < 500);
        check.that("pages are made anew in place: " + (marks[4] - marks[3]), marks[4] - marks[3] < 3_000);
        check.end();
    }

    /** Each turn makes the same two pages, which are gone with the power. */
    private static void comeUpOften(PastTree x) {
        x.checkpoint();
        for (int i = 0; i < 40; i++) {
            for (int j = 0; j < 17; j++) {
                x.put(1000 + j, j);
            }
            x.sync();
            x.spoil(0);
            x.down();
            x.start();
        }
    }

    /** The first use of a class makes things of the machine's own, which do not count here. */
    private static void warmUp() {
        PastTree x = new PastTree();
        grow(x);
        askAll(x);
        comeUpOften(x);
        bytes();
    }

    private static void grow(PastTree x) {
        for (int i = 0; i < 200; i++) {
            x.put(i * 7 % 200, i);
        }
        for (int i = 0; i < 100; i++) {
            x.remove(i);
        }
    }

    private static void askAll(PastTree x) {
        for (int i = 0; i < 40; i++) {
            x.dense();
            x.differs(100, 250, i);
            x.sum(200, 0, 1000);
            x.count(300, 0, 1000);
            x.next(300, 5);
            x.get(200, i);
        }
    }

    private static long bytes() {
        return bean.getCurrentThreadAllocatedBytes();
    }
}
