import com.sun.management.ThreadMXBean;
import java.lang.management.ManagementFactory;

/** All calls of a run live in one room, so an object is made with all its rows, and calls make nothing more. */
public final class RoomTest {
    private static final ThreadMXBean threads = (ThreadMXBean) ManagementFactory.getThreadMXBean();
    private static long answers = 0;

    public static void main(String[] args) {
        Check check = new Check("RoomTest");
        // What the first turns make while classes are loaded does not count.
        long made = 0;
        long called = 0;
        for (int turn = 0; turn < 3; turn++) {
            long start = bytes();
            BoxFlow flow = new BoxFlow();
            long ready = bytes();
            calls(flow);
            called = bytes() - ready;
            made = ready - start;
        }
        check.due("a new object is below 120,000 bytes: " + made, made < 120000, true);
        check.due("500 calls make nothing: " + called, called < 1000, true);
        check.due("the calls answered something", answers != 0, true);
        check.end();
    }

    private static void calls(BoxFlow flow) {
        for (int i = 0; i < 20; i++) {
            flow.type(0x783d783b793d2d79L, 8);
            flow.type(0x3b7a3d313bL, 5);
            flow.type(0x673d782d313bL, 6);
            answers += flow.compile() + flow.fault();
            flow.begin(0, i << 10, 1 << 20);
            flow.settle(1 + i % 8, 1 << 20, i % 8);
            answers += flow.step(200) + flow.state(4);
            for (int k = 0; k < 8; k++) {
                answers += flow.coefficient(k % 3, k, true) + flow.box(1, k % 3, 0);
            }
        }
    }

    private static long bytes() {
        return threads.getThreadAllocatedBytes(Thread.currentThread().getId());
    }
}
