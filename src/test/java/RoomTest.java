import java.lang.management.ManagementFactory;

/** All objects are made by the constructor: no call makes one, so a run needs little room. */
public final class RoomTest {
    private static final long MOST_BYTES_OF_CALLS = 20_000;
    private static final long MOST_BYTES_OF_OBJECT = 200_000;

    public static void main(String[] args) {
        // Once unmeasured, so that what the machine makes for itself at first is made.
        run(new HopHomes());
        long start = allocated();
        HopHomes x = new HopHomes();
        long made = allocated();
        int answers = run(x);
        long called = allocated();
        Check.holds("calls were made: " + answers, answers > 0);
        Check.holds("bytes of a new object: " + (made - start), made - start < MOST_BYTES_OF_OBJECT);
        Check.holds("bytes of its calls: " + (called - made), called - made < MOST_BYTES_OF_CALLS);
        Check.end();
    }

    private static long allocated() {
        var threads = (com.sun.management.ThreadMXBean) ManagementFactory.getThreadMXBean();
        return threads.getThreadAllocatedBytes(Thread.currentThread().getId());
    }

    private static int run(HopHomes x) {
        int sum = 0;
        for (int home = 0; home < 4; home++) {
            x.setFrames(home, 12);
            for (int page = 0; page < 10; page++) {
                x.addPage(home);
            }
            x.addThread(home);
        }
        x.set(2, 1);
        for (char character : "r0.1;w1.20;r2.39;w3.0;g0.2;r0.0;r0.1;r0.2;r0.3;r0.4".toCharArray()) {
            x.type(character);
        }
        for (int round = 0; round < 30; round++) {
            x.set(0, round % 4);
            sum += x.perform() + x.trial(3) + x.bestPolicy() + x.read(round % 4, round);
            sum += x.write(round % 4, round) + x.wouldPay(0, 0, true) + x.bestHome(round);
            sum += x.home(1, 5) + x.page(2, 5) + x.event(3, 0) + x.count(round % 16);
            sum += x.keep() + x.undo() + x.restore() + x.fade();
        }
        return sum;
    }
}
