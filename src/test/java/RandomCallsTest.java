/**
 * Runs of 512 calls with arguments of all sorts: none may throw; and an object that was asked in
 * between answers as one that was only told, so that nothing kept for later answers goes stale.
 */
public final class RandomCallsTest {
    private static final Due DUE = new Due("RandomCallsTest");
    private static final int[] FAR = {Integer.MIN_VALUE, Integer.MAX_VALUE, -1, 12, 61, 99, 100};
    private static final String[] TEXTS = {"0", "!0|1", ":b0", "0:e1z3", "!1:b0e0b1", "3>2:b2",
        "0&1|!2:z4", "4>1|3>5&0", ":z5b2", "2", "1>9", "0&:", "!", ":b3e4", "0|1|2:e0"};

    private long seed;

    public static void main(String[] args) {
        int runs = args.length > 0 ? Integer.parseInt(args[0]) : 60;
        for (int run = 1; run <= runs; run++) {
            new RandomCallsTest().run(run);
        }
        DUE.end();
    }

    private int next(int below) {
        seed = seed * 6364136223846793005L + 1442695040888963407L;
        return (int) ((seed >>> 33) % below);
    }

    /** Mostly a number below a bound, at times one far off. */
    private int some(int below) {
        return next(24) == 0 ? FAR[next(FAR.length)] : next(below);
    }

    private void run(int run) {
        seed = run * 104729L;
        SoWhen asked = new SoWhen();
        SoWhen told = new SoWhen();
        int calls = 0;
        int at = 0;
        while (calls < 320) {
            int[] a = {some(12), some(12), some(12), some(12), some(12), some(6), next(2)};
            int call = next(18);
            long seedThen = seed;
            long first = tell(asked, call, a);
            seed = seedThen;
            DUE.is("run " + run + " call " + at + " of " + call, tell(told, call, a), first);
            if (next(3) == 0) {
                ask(asked, next(15), a);
                calls++;
            }
            calls += call == 0 ? 12 : 1;
            at++;
        }
        for (int question = 0; question < 15; question++) {
            for (int i = 0; i < 6; i++) {
                int[] a = {some(10), some(12), some(12), some(12)};
                DUE.is("run " + run + " question " + question, ask(asked, question, a),
                        ask(told, question, a));
            }
        }
    }

    private long tell(SoWhen x, int call, int[] a) {
        boolean yes = a[6] == 1;
        switch (call) {
            case 0:
                Due.write(x, a[0] & 7, TEXTS[next(TEXTS.length)]);
                return 0;
            case 1:
            case 2:
                return x.thing(some(4), a[0]);
            case 3:
            case 4:
                return x.happening(a[0], some(9), yes);
            case 5:
            case 6:
                return x.was(some(6), some(2), a[1], a[2], a[5]);
            case 7:
                return x.seen(some(4), a[1], a[5]);
            case 8:
                return x.span(some(4), a[1], a[2], yes, a[5]);
            case 9:
                return x.price(some(4), a[1]);
            case 10:
                return x.weigh(a[5], a[1]);
            case 11:
                return x.by(some(8), yes);
            case 12:
                return next(3) == 0 ? x.restore() : x.image();
            case 13:
                return x.copy(a[0], a[1], a[2], a[3], some(6));
            case 14:
                return x.show(a[0], some(9) - 1) + 100L * x.says(a[1], some(4));
            case 15:
                return x.set(a[0], a[1], a[2] * 0x1_0000_0001L) + x.element(a[0], a[1]);
            case 16:
                return x.row(a[0], some(4), some(61)) + x.holds(a[0]);
            default:
                return x.sheet(a[0], a[1], 5 * next(4), a[5]);
        }
    }

    private long ask(SoWhen x, int question, int[] a) {
        switch (question) {
            case 0:
                return x.least() + 100_000L * x.quarrel();
            case 1:
                return x.courses();
            case 2:
                return x.is(a[0], a[1]);
            case 3:
                return x.value(a[0], a[1]);
            case 4:
                return x.why(a[0], a[1]);
            case 5:
                return x.out();
            case 6:
                return x.must(a[0], a[1], a[2]);
            case 7:
                return x.could(a[1]);
            case 8:
                return x.ever(a[0], a[1], a[2]);
            case 9:
                return x.howLong(a[0], a[1], a[2]);
            case 10:
                return x.since(a[0], a[1]);
            case 11:
                return x.plan(a[0], a[1], a[2]);
            case 12:
                return x.seemed(a[3], a[2], a[0], a[1]);
            case 13:
                return x.pieceOf(a[0], a[1]) + 1000L * x.fault() + 100_000L * x.status(a[1] & 3);
            default:
                return x.act(a[0], a[1] & 3, a[2]) + x.trace(a[3]);
        }
    }
}
