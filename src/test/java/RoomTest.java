import com.sun.management.ThreadMXBean;
import java.lang.management.ManagementFactory;

/** A long and busy run stays in its room: what a new object makes is used again. */
public final class RoomTest {
    private static final long MOST_BYTES = 400_000L;

    public static void main(String[] args) {
        ThreadMXBean threads = (ThreadMXBean) ManagementFactory.getThreadMXBean();
        long thread = Thread.currentThread().getId();
        run(new ZonedFabric(5, 8, 4), 20);
        long before = threads.getThreadAllocatedBytes(thread);
        long began = System.nanoTime();
        ZonedFabric x = new ZonedFabric(5, 8, 4);
        run(x, 512);
        long used = threads.getThreadAllocatedBytes(thread) - before;
        long millis = (System.nanoTime() - began) / 1_000_000;
        System.out.println(used + " bytes, " + millis + " ms, " + x.count(6) + " frames");
        if (used > MOST_BYTES || x.count(6) < 30_000) {
            System.out.println("too many bytes, or too few frames");
            System.exit(1);
        }
    }

    private static void run(ZonedFabric x, int calls) {
        int made = 0;
        made += x.disc(7) ? 1 : 0;
        for (int n = 0; n < 8; n++) {
            x.wire(n % 5, n / 5, 16 + n, 0, 1);
            made++;
        }
        for (int s = 0; s < 5; s++) {
            x.wire(s, 6, (s + 1) % 5, 7, 1 + s);
            made++;
        }
        for (int i = 0; made < calls; i++, made++) {
            int what = i % 8;
            if (what < 4) {
                x.read(i % 7, 7, i & 1, i % 13, 4);
            } else if (what == 4) {
                x.cut(i % 16);
            } else if (what == 5) {
                x.join((i - 1) % 16);
            } else {
                x.tick(300);
            }
        }
    }
}
