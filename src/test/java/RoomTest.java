import com.sun.management.ThreadMXBean;
import java.lang.management.ManagementFactory;

/** How much room an object takes: made once, the dearest calls make next to nothing more. */
public final class RoomTest {
    private static final ThreadMXBean THREADS = (ThreadMXBean) ManagementFactory.getThreadMXBean();

    private RoomTest() {
    }

    public static void main(String[] args) {
        measure();
        long taken = measure();
        System.out.println("bytes for one object and 512 of its dearest calls: " + taken);
        Due.yes("below 64 KiB", taken < 65536);
        Due.close();
    }

    private static long measure() {
        long before = THREADS.getCurrentThreadAllocatedBytes();
        CanyonRafts x = new CanyonRafts();
        x.end(100);
        for (int c = 0; c < 14; c++) {
            x.camp(7 * c + 5, false);
        }
        for (int t = 0; t < 10; t++) {
            x.trip(t % 4, t % 3, 10 + t, 15, 2);
        }
        for (int s = 0; s < 4; s++) {
            x.sheet(s, 16, 40);
        }
        int answers = 0;
        for (int i = 0; i < 483; i += 3) {
            answers += x.fill(1023) + x.calendar(511) + x.let(i % 20, i % 4);
        }
        long after = THREADS.getCurrentThreadAllocatedBytes();
        Due.yes("trips got plans", answers > 161 * 45);
        return after - before;
    }
}
