import com.sun.management.ThreadMXBean;
import java.lang.management.ManagementFactory;

/** All calls of one run live in one room: calls that answer make nothing, and an object is small. */
public final class RoomTest {
    /** Few, so that the machine has not yet learned to leave out a row that a call makes and drops. */
    private static final int ROUNDS = 3;
    private static final int PASSES = 4;
    /** Some 1000 fields and elements of at most 8 bytes, with the heads of their rows. */
    private static final long MOST_BYTES = 10_000;
    private static final ThreadMXBean BEAN = (ThreadMXBean) ManagementFactory.getThreadMXBean();
    private static final Check CHECK = new Check();
    private static long seen = 0;

    public static void main(String[] args) {
        if (!BEAN.isThreadAllocatedMemorySupported()) {
            throw new IllegalStateException("this machine can't tell what is made");
        }
        BEAN.setThreadAllocatedMemoryEnabled(true);
        for (int order = 1; order <= 3; order++) {
            of(order);
        }
        CHECK.due("the calls answered", true, () -> seen != 0);
        CHECK.end();
    }

    private static void of(int order) {
        long calls = leastBytesOfCalls(order);
        CHECK.due("bytes that calls make, order " + order, 0, () -> calls);
        bytesOfOne(order);
        long one = bytesOfOne(order);
        CHECK.due("an object's bytes are few: " + one, true, () -> one > 0 && one <= MOST_BYTES);
    }

    private static long bytesOfOne(int order) {
        long before = BEAN.getCurrentThreadAllocatedBytes();
        RationalOdes x = new RationalOdes(order);
        long bytes = BEAN.getCurrentThreadAllocatedBytes() - before;
        seen += x.answers();
        return bytes;
    }

    /** The machine makes things of its own at first; what calls make they make in every pass. */
    private static long leastBytesOfCalls(int order) {
        long least = Long.MAX_VALUE;
        for (int pass = 0; pass < PASSES; pass++) {
            least = Math.min(least, bytesOfCalls(order));
        }
        return least;
    }

    private static long bytesOfCalls(int order) {
        RationalOdes x = new RationalOdes(order);
        long before = BEAN.getCurrentThreadAllocatedBytes();
        for (int round = 0; round < ROUNDS; round++) {
            eachCall(x, order, round);
        }
        return BEAN.getCurrentThreadAllocatedBytes() - before;
    }

    /** Sums and products of the round's number alone: a boxed number or a text would be counted. */
    private static void eachCall(RationalOdes x, int order, int round) {
        boolean end = round % 2 == 0;
        x.clear();
        for (int i = 0; i <= order; i++) {
            seen += x.put(i, i, round + i + 1) ? 1 : 0;
            seen += x.put(i, 4, round % 3 == 0 ? 0 : 7919L * round) ? 1 : 0;
        }
        x.hand(round % 13, 32002);
        seen += x.at(order, order) + x.made(round) + x.places() + x.place(0);
        seen += x.level(end, round) + x.exponent(end, round, 0) + (x.regular(end, round) ? 1 : 0);
        x.put(0, 0, 0);
        x.put(0, 4, 0);
        seen += x.answers() + x.answer(0, 0) + (x.solves() ? 1 : 0);
        x.take(0);
        x.move(round);
        x.turn();
        x.put(order, 0, 0);
        x.put(order, 0, 1);
        seen += x.series(0, 1, 2, 3, 30);
    }
}
