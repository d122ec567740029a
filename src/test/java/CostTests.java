import java.lang.management.ManagementFactory;

/** All calls of a run live in one room: only the constructor may make objects, and it few. */
public final class CostTests {

    private static final int MOST_BYTES_OF_ONE = 20000;
    private static final int CALLS = 512;

    private static final com.sun.management.ThreadMXBean METER =
        (com.sun.management.ThreadMXBean) ManagementFactory.getThreadMXBean();

    private static long made() {
        return METER.getThreadAllocatedBytes(Thread.currentThread().getId());
    }

    public static void main(String[] args) {
        long sum = 0;
        // The first rounds load classes and strings, so the cheapest one is counted.
        long ofOne = Long.MAX_VALUE;
        long ofCalls = Long.MAX_VALUE;
        for (int round = 0; round < 5; round++) {
            long start = made();
            ClawBox box = new ClawBox();
            long ready = made();
            for (int i = 0; i < CALLS; i++) {
                sum += call(box, i);
            }
            ofCalls = Math.min(ofCalls, made() - ready);
            ofOne = Math.min(ofOne, ready - start);
        }
        System.out.println("a box makes " + ofOne + " bytes, its calls " + ofCalls + " (" + sum + ")");
        if (ofOne > MOST_BYTES_OF_ONE || ofCalls != 0) {
            System.out.println("due is at most " + MOST_BYTES_OF_ONE + ", and none");
            System.exit(1);
        }
    }

    private static long call(ClawBox x, int i) {
        int j = i / 32;
        switch (i % 32) {
            case 0: return x.lay(i * 7 % 70, 1 + i / 32 % 15);
            case 1: return x.feed(0x6f2b2a6d29312b6dL >>> 8 * (i % 3), 5);
            case 2: return x.text(j % 2);
            case 3: return x.game(3, 0);
            case 4: return x.fewest(j, 3, -1);
            case 5: return x.sheet(j % 4, 8 << j % 3, 12);
            case 6: return x.put(j % 4, j % 12, 1 + j);
            case 7: return x.changed(j % 4);
            case 8: return x.haul(j % 4);
            case 9: return x.springs(j % 4, 0);
            case 10: return x.odds(j % 4, 0);
            case 11: return x.voice(j, j % 4, i);
            case 12: return x.body(0);
            case 13: return x.move(0, 0, 0, 1, 3);
            case 14: return x.judge(j % 4, j);
            case 15: return x.image();
            case 16: return x.draws(30);
            case 17: return x.pulls(j % 4);
            case 18: return x.restore();
            case 19: return x.tell(j);
            case 20: return x.check(j);
            case 21: return x.count(j);
            case 22: return x.told(j);
            case 23: return x.seen(j % 4, 0);
            case 24: return x.fill(j);
            case 25: return x.thingIs(j, 6);
            case 26: return x.cellIs(j, 3);
            case 27: return x.pull(j);
            case 28: return x.wind();
            case 29: return x.set(j, j % 3, 6);
            case 30: return x.out(j) + x.back(j, 1 + j % 15);
            default: return x.as(j, 1) + x.spring(0, 50) + x.untell(j % 3) + x.seed(j);
        }
    }
}
