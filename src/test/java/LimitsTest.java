import java.lang.management.ManagementFactory;
import java.util.Random;

/** What one run may keep: all calls of 512 live in one room, so the dearest calls must make next to nothing. */
public final class LimitsTest {
    /** Far below 7.3 million elements, even if each were but a byte. */
    private static final long MOST_BYTES = 1_000_000;

    public static void main(String[] args) {
        // Once ahead of counting, so that what the machine itself loads is not counted.
        dearRun(1);
        long before = bytesMade();
        dearRun(2);
        long made = bytesMade() - before;
        if (made > MOST_BYTES) {
            Check.say("a run of 512 calls made " + made + " bytes");
        }
        Check.end();
    }

    private static long bytesMade() {
        com.sun.management.ThreadMXBean threads =
                (com.sun.management.ThreadMXBean) ManagementFactory.getThreadMXBean();
        return threads.getThreadAllocatedBytes(Thread.currentThread().getId());
    }

    private static void dearRun(int seed) {
        Random random = new Random(seed);
        int[] kitchen = Check.numbers(Check.bytes("low 1;high 33;rub 9;"), 0);
        int[] steps = Check.numbers(Check.bytes("roll 2;rest 3;book; "), 0);
        ButterLeaves x = new ButterLeaves();
        for (int call = 0; call < 512; call += 8) {
            x.feed(kitchen[0], kitchen[1], kitchen[2], kitchen[3], kitchen[4]);
            x.kitchen(20);
            x.feed(steps[0], steps[1], steps[2], steps[3], steps[4]);
            x.recipe(20);
            x.begin(random.nextInt(288));
            x.soonest(729, 0);
            x.bench(0);
            x.kinds(0, x.steps(0, 1));
        }
    }
}
