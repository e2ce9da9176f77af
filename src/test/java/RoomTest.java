import java.lang.management.ManagementFactory;

/** All calls of a run share one room that nothing is given back to: what 512 of the dearest make is counted. */
public final class RoomTest {
    // 7.3 million elements are the limit; 2 MB are half a million of the smaller ones, for one object's whole life.
    private static final long MOST_BYTES = 2_000_000;
    private static final int CALLS = 512;

    private static long allocated() {
        return ((com.sun.management.ThreadMXBean) ManagementFactory.getThreadMXBean()).getCurrentThreadAllocatedBytes();
    }

    private static long call(KnapsackCore x, int kind, int k) {
        switch (kind) {
            case 0: return x.solve() + (long) x.undo();
            case 1: return x.front(k, 3);
            case 2: return x.least(100000 + k);
            case 3: return x.ahead(true);
            case 4: return x.image(k % 3) ? 1 : 0;
            case 5: return x.again(k % 3) ? 1 : 0;
            case 6: return x.room(200000 + k) ? x.step() : 0;
            case 7: return x.with(k % 60);
            case 8: return x.type(0x6974656d31203b20L) + (long) x.read();
            default: return x.drop(0) + (long) x.add(1000 + k, 1010 + k) + x.without(k % 60);
        }
    }

    private static KnapsackCore filled() {
        KnapsackCore x = new KnapsackCore();
        x.most(1000);
        for (int k = 0; k < 60; k++) {
            int weight = 1 + k * 7919 % 9973;
            x.add(weight, weight + 10);
        }
        x.room(150000);
        return x;
    }

    public static void main(String[] args) {
        int wrong = 0;
        long sum = 0;
        call(filled(), 0, 0);
        for (int kind = 0; kind < 10; kind++) {
            long before = allocated();
            KnapsackCore x = filled();
            for (int k = 0; k < CALLS; k++) {
                sum += call(x, kind, k);
            }
            long made = allocated() - before;
            if (made > MOST_BYTES) {
                wrong++;
                System.out.println("calls of kind " + kind + " made " + made + " bytes");
            }
        }
        System.out.println(wrong == 0 ? "the room suffices (" + sum + ")" : wrong + " kinds of calls are too dear");
        if (wrong != 0) {
            System.exit(1);
        }
    }
}
