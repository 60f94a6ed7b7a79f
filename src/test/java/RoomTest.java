import com.sun.management.ThreadMXBean;
import java.lang.management.ManagementFactory;

/** All calls of one run live in one room: an object is small, and its calls make nothing. */
public final class RoomTest {
    private static final ThreadMXBean THREADS = (ThreadMXBean) ManagementFactory.getThreadMXBean();

    public static void main(String[] args) {
        String text = "cores 2;locks 3;bells 2;task a fair share 2 lock 0 work 30 lock 1 work 9;"
                + "task b fair share 1 lock 1 work 20 lock 0;task c server every 5 budget 1 share 5 sleep 2 wait 0 work 9;"
                + "task d batch share 1 work 99 ring 0;task e idle share 1 lock 2 work 99;";
        FairWheel x = Due.of(text);
        int[][] five = fives(text);
        dearCalls(x, five, text.length());
        long before = made();
        long nothing = made() - before;
        before = made();
        x = new FairWheel();
        long object = made() - before - nothing;
        before = made();
        for (int i = 0; i < 12; i++) {
            dearCalls(x, five, text.length());
        }
        long calls = made() - before - nothing;
        System.out.println("bytes of an object: " + object + ", made by its calls: " + calls);
        Due.due("an object is too large", object > 60000, false);
        Due.due("calls make something", calls > 1000, false);
        Due.finish("RoomTest");
    }

    private static long made() {
        return THREADS.getThreadAllocatedBytes(Thread.currentThread().getId());
    }

    private static int[][] fives(String text) {
        int[][] all = new int[(text.length() + 19) / 20][5];
        for (int i = 0; i < all.length * 20; i++) {
            int sign = i < text.length() ? text.charAt(i) : ' ';
            all[i / 20][i % 20 / 4] = all[i / 20][i % 20 / 4] << 8 | sign;
        }
        return all;
    }

    private static void dearCalls(FairWheel x, int[][] five, int length) {
        for (int[] one : five) {
            x.feed(one[0], one[1], one[2], one[3], one[4]);
        }
        x.end(length);
        x.kernel();
        x.run(20);
        x.image(1);
        x.run(40);
        x.back(1);
        x.tell(0, 0, 0);
        x.check();
        x.sight(99, 0, true);
        for (int task = 0; task < 5; task++) {
            x.soon(task);
            x.enough(task, 100);
            x.fits(task, 0);
            x.place(task);
        }
        x.risk(0);
        x.load(0);
        x.kill(0);
    }
}
