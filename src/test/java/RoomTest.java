import com.sun.management.ThreadMXBean;
import java.lang.management.ManagementFactory;

/** All calls of a run live in one room: no call makes rows of its own, all are made with the object. */
public final class RoomTest {
    private static final Check check = new Check("RoomTest");
    private static final int CALLS = 500;

    public static void main(String[] args) {
        ThreadMXBean threads = (ThreadMXBean) ManagementFactory.getThreadMXBean();
        if (threads.isThreadAllocatedMemorySupported()) {
            long warm = bytesOf(threads);
            long used = bytesOf(threads);
            check.due("bytes of " + CALLS + " calls, " + used + " after " + warm, used < 20 * CALLS ? 1 : 0, 1);
        }
        check.end();
    }

    private static long bytesOf(ThreadMXBean threads) {
        ThawPoints x = fullObject();
        long before = threads.getThreadAllocatedBytes(Thread.currentThread().getId());
        for (int call = 0; call < CALLS / 10; call++) {
            x.digest();
            x.keep();
            x.pass(20);
            x.restore();
            x.append('y');
            x.append('9');
            x.firstError();
            x.work();
            x.undo();
            x.forget(call % 6, 0);
        }
        return threads.getThreadAllocatedBytes(Thread.currentThread().getId()) - before;
    }

    private static ThawPoints fullObject() {
        ThawPoints x = new ThawPoints();
        for (int number = 0; number < 6; number++) {
            x.make(number, number, 3);
        }
        for (int degree = 0; degree < 1000; degree += 100) {
            x.bath(0, degree);
            for (int number = 0; number < 6; number++) {
                x.measure(number, 0);
            }
        }
        return x;
    }
}
