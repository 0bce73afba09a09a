import com.sun.management.ThreadMXBean;
import java.lang.management.ManagementFactory;

/** The room: calls make no objects, and a new object takes little, so that many fit in one run. */
final class RoomTest {
    private static final Check CHECK = new Check();
    private static final ThreadMXBean THREADS = (ThreadMXBean) ManagementFactory.getThreadMXBean();

    public static void main(String[] args) {
        allCalls(Meshes.line());
        long before = taken();
        MeshNames x = Meshes.line();
        CHECK.holds("a new object takes at most 8,000 bytes", taken() - before <= 8000);
        before = taken();
        int answers = 0;
        for (int i = 0; i < 12; i++) {
            answers += allCalls(x);
        }
        long made = taken() - before;
        CHECK.holds("calls make no objects, but " + made + " bytes were taken", made <= 2000);
        CHECK.holds("the calls were made", answers != 0);
        CHECK.end();
    }

    private static long taken() {
        return THREADS.getThreadAllocatedBytes(Thread.currentThread().getId());
    }

    /** Some forty calls, each method's among them. */
    private static int allCalls(MeshNames x) {
        int sum = x.image(0) + x.image(1) + x.up(7, 3) + x.link(7, 0, 1) + x.link(0, 5, 1) + x.changed(0);
        for (int what = 0; what < 8; what++) {
            sum += x.of(2, what) + x.worst(what) + x.count(what);
        }
        sum += x.path(5, 2) + x.over(5, 1) + x.owner(2, 99) + x.route(5, 120, 3) + x.spare(5, 120);
        sum += x.torn(0, 5) + x.bridges() + x.down(7) + x.down(9) + x.restore(0);
        return sum;
    }
}
