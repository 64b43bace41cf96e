import java.lang.management.ManagementFactory;

/** A run's calls share one room: all rows are made with the object, and questions make nothing. */
public final class RoomTest {
    private static final Due DUE = new Due("RoomTest");
    private static final int[] SHEET = {2, 0, 0, 0, 0, 2, 0, 4, 4, 1, 0, 0, 6, 6, 0, 3, 0, 1, 2, 0};

    public static void main(String[] args) {
        SoWhen warm = new SoWhen();
        run(warm);
        long before = made();
        SoWhen x = new SoWhen();
        long object = made() - before;
        before = made();
        run(x);
        long calls = made() - before;
        DUE.is("an object of some " + object + " bytes is small", object < 300_000 ? 1 : 0, 1);
        DUE.is("a run that makes " + calls + " bytes is small", calls < 100_000 ? 1 : 0, 1);
        DUE.end();
    }

    private static long made() {
        return ((com.sun.management.ThreadMXBean) ManagementFactory.getThreadMXBean())
                .getThreadAllocatedBytes(Thread.currentThread().getId());
    }

    private static void run(SoWhen x) {
        x.thing(1, 0);
        Due.law(x, ":b0", 2, false);
        Due.law(x, ":e0", 2, true);
        Due.thing(x, 2, "!0");
        Due.ints(x, 0, SHEET);
        x.image();
        for (int i = 0; i < 28; i++) {
            x.sheet(0, 0, 20, 1);
            x.least();
            x.why(0, 5);
            x.plan(0, 0, 5);
            x.must(0, 0, 3);
            x.howLong(0, 0, 11);
            x.was(0, i & 1, 4, 4, 2);
            x.quarrel();
            x.out();
            x.seemed(1, 9, 0, 5);
            x.act(0, 2, i);
            x.courses();
            x.value(0, 0);
            x.since(0, 9);
            x.could(3);
            x.restore();
        }
    }
}
