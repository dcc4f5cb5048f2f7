import com.sun.management.ThreadMXBean;
import java.lang.management.ManagementFactory;

/**
 * What an object takes of memory in 512 calls: all calls of a run live in one room, so rows are made
 * once and used again. Asked for in bytes, which the Java machine counts by thread.
 */
public final class RoomTest {
    /** Some two hundred objects of so many bytes fit into 7.3 million fields and elements of four. */
    private static final long MOST_BYTES = 120000;
    private static final long MOST_BYTES_OF_CALLS = 400;
    private static final ThreadMXBean COUNTER = (ThreadMXBean) ManagementFactory.getThreadMXBean();
    private static final String LAW = "y:(a*2=w|!r+b*3<d)&![a+w]*2>b?d*2+b*3-a*2-w+r*r;y:d/[b+1]*3-[a-w*2]/3+r;y:d*2-r*3";
    private static int wrong = 0;

    private static void feed(EggThrow x, String text) {
        for (int i = 0; i < text.length(); i++) {
            x.feed(text.charAt(i), 0, 0, 0, 0);
        }
    }

    private static long bytes() {
        return COUNTER.getThreadAllocatedBytes(Thread.currentThread().getId());
    }

    private static void ask(boolean holds, String what) {
        if (!holds) {
            wrong++;
            System.out.println("room: " + what);
        }
    }

    private static EggThrow full() {
        EggThrow x = new EggThrow();
        feed(x, "ms1f1w9;pl5r5b9;pl5r5b9;pl5r5b9;pl5r5b9;pl5r5b9;pl5r5b9;e;e;e;e;e;e");
        ask(x.text(0) == 6, "no meadow");
        feed(x, LAW);
        ask(x.text(1) == 0 && x.law(0), "no law");
        return x;
    }

    /** The dearest calls, one behind another; each other time with another wind. */
    private static void askAll(EggThrow x, int i) {
        int two = 10 * (i % 6) + (i + 1) % 6;
        int egg = 10 * (i / 6 % 6) + i % 2;
        x.whom(0);
        x.row(i % 6, 1 + i % 60, 1);
        x.learn(two, egg, 60, 1);
        x.stride(two, egg, 0);
        x.gusty(two, egg, 9);
        x.first(two, i % 6, 1);
        x.crown(543210, 2);
        x.fete(103254, i, 0);
        x.rank(i % 6, 14);
        x.carton(two, 1, 6, 0);
        x.game(two, egg, i);
        x.image();
        x.set(0, i % 9);
        x.held();
        x.back();
    }

    private static void life(boolean isAsked) {
        long before = bytes();
        EggThrow x = full();
        for (int i = 0; i < 24; i++) {
            askAll(x, i);
        }
        long taken = bytes() - before;
        ask(!isAsked || taken <= MOST_BYTES, "an object took " + taken + " bytes in its calls");
        before = bytes();
        for (int i = 0; i < 24; i++) {
            askAll(x, i);
        }
        long more = bytes() - before;
        ask(!isAsked || more <= MOST_BYTES_OF_CALLS, "what was made is not used again: " + more + " bytes");
    }

    private static void refusals() {
        EggThrow x = full();
        feed(x, "y:1;y:d*");
        long before = bytes();
        for (int i = 0; i < 100; i++) {
            x.text(0);
            x.text(1);
            x.text(2);
            x.fault(1);
            x.measure(0, 400, 0, 1000);
        }
        long taken = bytes() - before;
        ask(taken <= MOST_BYTES_OF_CALLS, "what is refused took " + taken + " bytes");
    }

    public static void main(String[] args) {
        life(false); // what the machine itself takes to load classes is not asked for
        life(true);
        refusals();
        if (wrong > 0) {
            System.exit(1);
        }
    }
}
