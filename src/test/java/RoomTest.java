import com.sun.management.ThreadMXBean;
import java.lang.management.ManagementFactory;

/** What runs of 512 calls allocate: all calls of one run live in one room, in which nothing is freed. */
public final class RoomTest {
    /** The room has 7.3 million fields and elements; four bytes each are far more than are asked here. */
    private static final long MOST_BYTES = 400_000;

    private static final ThreadMXBean THREADS = (ThreadMXBean) ManagementFactory.getThreadMXBean();
    private static int wrong = 0;
    private static long sink = 0;

    private interface Call {
        long on(RailsGrowWider x, int k);
    }

    private static void run(String name, Call call) {
        long before = THREADS.getThreadAllocatedBytes(Thread.currentThread().getId());
        RailsGrowWider x = new RailsGrowWider();
        for (int k = 0; k < 5; k++) {
            x.car(k % 4, 1 + k);
            x.times(k, 3 + k, 9 - k);
        }
        x.image();
        x.seen(3, 0, 1);
        for (int k = 0; k < 500; k++) {
            sink += call.on(x, k);
        }
        long bytes = THREADS.getThreadAllocatedBytes(Thread.currentThread().getId()) - before;
        System.out.println(name + ": " + bytes + " bytes");
        if (bytes > MOST_BYTES) {
            wrong++;
            System.out.println("too much: " + name);
        }
    }

    /** Fifteen feeds, a text of 300 bytes, and so on: as many large texts as 500 calls can hold. */
    private static long largeTexts(RailsGrowWider x, int k) {
        if (k % 16 == 15) {
            x.text();
            return x.about(1) == 4 ? x.back() : 0;
        }
        // "moves 1+1+1+..+1;"
        int plus = 0x312b312b;
        int first = k % 16 == 0 ? 0x6d6f7665 : plus;
        int second = k % 16 == 0 ? 0x7320312b : plus;
        return x.feed(first, second, plus, plus, k % 16 == 14 ? 0x312b313b : plus);
    }

    public static void main(String[] args) {
        run("new alone", (x, k) -> 0);
        run("shunts", (x, k) -> x.shunts(k % 9) + (x.want(k % 120) ? 1 : 0));
        run("reach", (x, k) -> x.reach() + x.hour(1) + x.move(k % 3, (k + 1) % 3));
        run("histories", (x, k) -> x.histories(k % 2 == 0));
        run("crane", (x, k) -> x.crane(k % 2 == 0) + x.idle() + x.rows(0) + x.lowest(0, 1));
        run("groups", (x, k) -> x.group(k % 6) + x.settled(0) + (x.owe(k % 6, (k + 1) % 6, 5) ? 1 : 0));
        run("hours", (x, k) -> x.hour(60) + x.foretold(60, 2) + x.years(k, 40) + x.undo());
        run("images", (x, k) -> k % 2 == 0 ? x.image() : x.back());
        run("small texts", (x, k) -> x.text() + (x.about(1) == 4 ? x.back() : 0));
        run("large texts", RoomTest::largeTexts);
        System.out.println(wrong == 0 ? "all fits into the room (" + (sink & 1) + ")" : wrong + " runs do not fit");
        if (wrong != 0) {
            System.exit(1);
        }
    }
}
