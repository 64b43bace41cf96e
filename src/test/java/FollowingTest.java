/** Promises 20 to 33: what follows by courses, in small worlds that can be told by hand. */
public final class FollowingTest {
    private static final Due DUE = new Due("FollowingTest");

    public static void main(String[] args) {
        lamp();
        wrongInputs();
        quarrels();
        many();
        byThings();
        running();
        strictness();
        effects();
        spansAndNevers();
        told();
        plans();
        seeming();
        lastHour();
        leavingOut();
        DUE.end();
    }

    /** A KEPT thing 0, and a law 0 that begins it for 3. */
    private static SoWhen lit() {
        SoWhen x = new SoWhen();
        x.thing(1, 0);
        Due.law(x, ":b0", 3, false);
        return x;
    }

    private static void lamp() {
        SoWhen x = lit();
        DUE.is("least", x.least(), 0);
        DUE.is("courses", x.courses(), 2);
        x.was(0, 0, 0, 0, 0);
        x.was(0, 1, 4, 4, 1);
        DUE.is("least", x.least(), 3);
        DUE.is("courses", x.courses(), 4);
        DUE.is("is", x.is(0, 0), 0);
        DUE.is("is", x.is(0, 1), 2);
        DUE.is("is", x.is(0, 4), 1);
        DUE.is("is", x.is(0, 11), 1);
        DUE.is("must", x.must(0, 0, 3), 1);
        DUE.is("must", x.must(0, 0, 2), 2);
        DUE.is("must", x.must(0, 4, 11), 0);
        DUE.is("could", x.could(3), 65);
        DUE.is("could", x.could(4), 64);
        DUE.is("ever", x.ever(0, 0, 0), 0);
        DUE.is("ever", x.ever(0, 0, 3), 2);
        DUE.is("ever", x.ever(0, 3, 4), 1);
        DUE.is("howLong", x.howLong(0, 0, 11), 1108);
        DUE.is("howLong", x.howLong(0, 0, 3), 300);
        DUE.is("since", x.since(0, 4), 4);
        DUE.is("since", x.since(0, 11), 4);
        DUE.is("since", x.since(0, 3), -1);
        DUE.is("since", x.since(0, 0), -1);
        DUE.is("why", x.why(0, 4), 2);
        DUE.is("why", x.why(0, 0), 1);
        DUE.is("why", x.why(0, 2), -1);
        DUE.is("quarrel", x.quarrel(), 0);
        DUE.is("out", x.out(), -1);
        DUE.is("value", x.value(0, 0), -1);
        x.seen(0, 1, 2);
        DUE.is("least", x.least(), 0);
        DUE.is("is", x.is(0, 1), 0);
        DUE.is("is", x.is(0, 2), 1);
        DUE.is("since", x.since(0, 9), 2);
        DUE.is("why", x.why(0, 4), 4);
    }

    private static void wrongInputs() {
        SoWhen x = lit();
        int[][] at = {{-1, 0}, {1, 0}, {0, -1}, {0, 12}, {Integer.MAX_VALUE, Integer.MIN_VALUE}};
        for (int[] a : at) {
            DUE.is("is", x.is(a[0], a[1]), -1);
            DUE.is("value", x.value(a[0], a[1]), -1);
            DUE.is("why", x.why(a[0], a[1]), -1);
            DUE.is("since", x.since(a[0], a[1]), -1);
            DUE.is("seemed", x.seemed(0, 11, a[0], a[1]), -1);
        }
        int[][] from = {{-1, 0, 1}, {1, 0, 1}, {0, -1, 1}, {0, 3, 2}, {0, 0, 12}, {0, 12, 12}};
        for (int[] a : from) {
            DUE.is("must", x.must(a[0], a[1], a[2]), -1);
            DUE.is("ever", x.ever(a[0], a[1], a[2]), -1);
            DUE.is("howLong", x.howLong(a[0], a[1], a[2]), -1);
            DUE.is("plan", x.plan(a[0], a[1], a[2]), -1);
        }
        DUE.is("plan of one hour", x.plan(0, 3, 3), -1);
        DUE.is("could", x.could(-1), -1);
        DUE.is("could", x.could(12), -1);
        DUE.is("seemed", x.seemed(-1, 0, 0, 0), -1);
        DUE.is("seemed", x.seemed(6, 0, 0, 0), -1);
        DUE.is("seemed", x.seemed(0, -1, 0, 0), -1);
        DUE.is("seemed", x.seemed(0, 12, 0, 0), -1);
        for (int i = 11; i <= 17; i++) {
            DUE.is("nothing is refused", x.status(i), 0);
        }
    }

    private static void quarrels() {
        SoWhen x = lit();
        x.was(0, 1, 0, 0, 0);
        x.was(0, 1, 6, 6, 1);
        x.was(0, 0, 4, 4, 2);
        x.was(0, 0, 9, 9, 3);
        DUE.is("least", x.least(), -1);
        DUE.is("courses", x.courses(), 0);
        DUE.is("is", x.is(0, 0), -1);
        DUE.is("why", x.why(0, 0), -1);
        DUE.is("must", x.must(0, 0, 1), -1);
        DUE.is("could", x.could(0), -1);
        DUE.is("ever", x.ever(0, 0, 1), -1);
        DUE.is("howLong", x.howLong(0, 0, 1), -1);
        DUE.is("since", x.since(0, 0), -1);
        DUE.is("plan", x.plan(0, 0, 1), -1);
        DUE.is("quarrel", x.quarrel(), 10);
        DUE.is("out: none alone", x.out(), -1);
        x.by(1, true);
        DUE.is("quarrel", x.quarrel(), 9);
        DUE.is("out", x.out(), 0);
        x.weigh(0, 2);
        DUE.is("out: two are left without it", x.out(), 0);
        x.by(2, true);
        DUE.is("out by weight", x.out(), 3);
        x.weigh(3, 2);
        DUE.is("out by number", x.out(), 0);
        x.weigh(0, 99);
        x.weigh(3, 98);
        DUE.is("out by weight", x.out(), 3);
    }

    private static void many() {
        SoWhen x = new SoWhen();
        x.thing(0, 0);
        x.thing(0, 0);
        for (int i = 0; i < 5; i++) {
            x.thing(1, 0);
        }
        DUE.is("courses", x.courses(), 1L << 29);
        for (int i = 0; i < 4; i++) {
            Due.law(x, ":b2", 0, false);
        }
        DUE.is("courses", x.courses(), (1L << 29) * 244140625L);
        Due.law(x, ":e3", 0, false);
        DUE.is("courses at most", x.courses(), 1_000_000_000_000_000_000L);
        Due.law(x, ":e4", 0, false);
        DUE.is("courses at most", x.courses(), 1_000_000_000_000_000_000L);
        x.was(0, 1, 0, 11, 0);
        x.was(1, 1, 0, 11, 0);
        DUE.is("courses", x.courses(), 32L * 13841287201L);
        x.was(2, 1, 0, 0, 0);
        DUE.is("courses", x.courses(), 16L * 13841287201L);
    }

    private static void byThings() {
        SoWhen x = new SoWhen();
        x.thing(0, 0);
        x.thing(1, 0);
        Due.thing(x, 2, "!0&1|0&!1");
        Due.thing(x, 2, "!2");
        DUE.is("courses", x.courses(), 8192);
        x.was(3, 1, 5, 5, 0);
        x.was(0, 1, 5, 5, 0);
        DUE.is("is of a kept one by a BY one", x.is(1, 5), 1);
        DUE.is("is", x.is(1, 0), 1);
        DUE.is("is", x.is(2, 5), 0);
        DUE.is("is", x.is(2, 6), 2);
        DUE.is("why", x.why(1, 0), 3);
        DUE.is("howLong", x.howLong(2, 0, 11), 1100);
        DUE.is("courses", x.courses(), 2048);
    }

    private static void running() {
        SoWhen x = new SoWhen();
        x.thing(1, 0);
        Due.thing(x, 3, "0");
        Due.law(x, "1>2:z1", 2, true);
        x.was(0, 1, 0, 0, 0);
        DUE.is("value", x.value(1, 0), 0);
        DUE.is("value", x.value(1, 3), 33);
        DUE.is("value", x.value(1, 11), 77);
        DUE.is("is", x.is(1, 0), 0);
        DUE.is("is", x.is(1, 1), 1);
        DUE.is("value of no running one", x.value(0, 1), -1);
        x.was(1, 0, 7, 9, 0);
        DUE.is("stilled once is counted up again", x.least(), -1);
        x.by(1, true);
        x.was(1, 2, 9, 9, 0);
        DUE.is("least", x.least(), 2);
        DUE.is("value", x.value(1, 6), 66);
        DUE.is("value", x.value(1, 7), 0);
        DUE.is("must", x.must(0, 6, 6), 1);
        DUE.is("howLong", x.howLong(1, 0, 11), 1010);
        x.by(2, true);
        x.was(1, 1, 9, 9, 0);
        x.seen(0, 3, 0);
        x.was(1, 0, 8, 8, 0);
        DUE.is("least", x.least(), 2);
        DUE.is("could", x.could(7), 1);
        DUE.is("could", x.could(3), 1);
    }

    private static void strictness() {
        for (int strict = 0; strict < 2; strict++) {
            SoWhen x = new SoWhen();
            x.thing(1, 0);
            x.thing(1, 0);
            Due.law(x, "0:b1", 1, strict == 1);
            x.seen(0, 3, 0);
            x.was(1, 0, 3, 3, 0);
            DUE.is("is", x.is(0, 3), strict == 1 ? 1 : 2);
            DUE.is("is", x.is(1, 4), strict == 1 ? 1 : 2);
            DUE.is("courses", x.courses(), strict == 1 ? 1 : 2);
            x.was(1, 0, 4, 4, 0);
            DUE.is("least", x.least(), strict == 1 ? -1 : 0);
            DUE.is("is", x.is(0, 3), strict == 1 ? -1 : 0);
        }
    }

    private static void effects() {
        SoWhen x = new SoWhen();
        x.thing(1, 0);
        x.thing(1, 0);
        Due.law(x, ":b0e0b1", 1, false);
        Due.law(x, ":e0b0e1", 1, false);
        x.seen(0, 2, 0);
        x.seen(1, 5, 0);
        DUE.is("the last counts", x.is(0, 3), 0);
        DUE.is("is", x.is(1, 5), 1);
        DUE.is("the last counts", x.is(0, 6), 1);
        DUE.is("is", x.is(1, 11), 0);
    }

    private static void spansAndNevers() {
        SoWhen x = lit();
        Due.law(x, ":e0", 2, false);
        x.span(0, 2, 4, false, 0);
        DUE.is("least", x.least(), 3);
        DUE.is("could", x.could(1), 64);
        DUE.is("could", x.could(2), 65);
        DUE.is("is", x.is(0, 5), 1);
        x.span(0, 4, 8, false, 0);
        DUE.is("one for both", x.least(), 3);
        DUE.is("must", x.must(0, 4, 4), 1);
        x.span(0, 4, 4, true, 0);
        DUE.is("never there: two", x.least(), 6);
        x.span(0, 5, 8, true, 0);
        DUE.is("never there: none", x.least(), -1);
        DUE.is("quarrel", x.quarrel(), 14);
        x.by(3, true);
        x.span(0, 2, 2, true, 0);
        DUE.is("must", x.must(0, 3, 3), 1);
        x.seen(1, 3, 0);
        DUE.is("another is seen there", x.least(), -1);
        DUE.is("quarrel", x.quarrel(), 0b110101);
    }

    private static void told() {
        SoWhen x = lit();
        x.seen(0, 2, 0);
        DUE.is("told is for nothing", x.least(), 0);
        x.seen(0, 2, 1);
        DUE.is("told twice", x.least(), 0);
        x.span(0, 2, 5, false, 1);
        DUE.is("the span came", x.least(), 0);
        x.by(0, true);
        x.by(1, true);
        DUE.is("untold", x.least(), 3);
        x.price(0, 0);
        DUE.is("for nothing", x.least(), 0);
        DUE.is("could", x.could(9), 65);
        x.price(0, 99);
        DUE.is("dear", x.least(), 99);
    }

    private static void plans() {
        SoWhen x = new SoWhen();
        x.thing(1, 0);
        x.thing(1, 0);
        Due.law(x, "1:b0", 1, false);
        Due.law(x, ":b1", 1, false);
        Due.law(x, ":b0", 1, false);
        x.was(0, 0, 0, 0, 0);
        DUE.is("by no condition", x.plan(0, 0, 5), 2);
        DUE.is("later", x.plan(0, 3, 5), 32);
        DUE.is("of the other", x.plan(1, 3, 5), 31);
        x.was(1, 1, 0, 0, 0);
        DUE.is("its condition holds", x.plan(0, 0, 5), 0);
        DUE.is("what is so stays so", x.plan(1, 0, 5), 0);
        x.seen(1, 0, 0);
        DUE.is("not where one is seen", x.plan(0, 0, 5), 10);
        DUE.is("nowhere else", x.plan(0, 0, 1), -1);
        DUE.is("not where the same is seen", x.plan(1, 0, 5), 10);
        DUE.is("nowhere else", x.plan(1, 0, 1), -1);
        x.by(2, true);
        DUE.is("one put by is of no set", x.plan(0, 0, 1), 0);
        x.span(0, 0, 3, true, 0);
        DUE.is("not where it never was", x.plan(0, 0, 5), 2);
        x.was(0, 0, 3, 3, 0);
        DUE.is("not against a piece", x.plan(0, 0, 5), 32);
        for (int i = x.status(2); i < 16; i++) {
            x.was(0, 0, 3, 3, 0);
        }
        DUE.is("one more than sixteen", x.plan(0, 0, 5), 32);
        x.was(0, 0, 0, 0, 0);
        DUE.is("pieces stay", x.status(2), 16);
    }

    private static void seeming() {
        SoWhen x = lit();
        x.was(0, 1, 5, 6, 0);
        x.was(0, 0, 0, 4, 1);
        x.was(0, 0, 5, 5, 1);
        x.seen(0, 7, 2);
        DUE.is("least", x.least(), -1);
        DUE.is("seemed", x.seemed(0, 6, 0, 5), 1);
        DUE.is("seemed", x.seemed(0, 6, 0, 0), 1);
        DUE.is("not told by then", x.seemed(0, 5, 0, 5), 2);
        DUE.is("seemed", x.seemed(1, 4, 0, 4), 0);
        DUE.is("seemed", x.seemed(1, 11, 0, 11), 0);
        DUE.is("seemed", x.seemed(2, 6, 0, 8), 2);
        DUE.is("seemed", x.seemed(2, 7, 0, 8), 1);
        DUE.is("seemed to one who told nothing", x.seemed(5, 11, 0, 8), 2);
        x.was(0, 1, 8, 8, 1);
        x.was(0, 0, 9, 9, 1);
        DUE.is("no course", x.seemed(1, 9, 0, 0), -1);
        x.by(5, true);
        DUE.is("put by", x.seemed(1, 9, 0, 0), 0);
        Due.thing(x, 2, "!0");
        DUE.is("of a thing asked first so", x.seemed(1, 9, 1, 0), 1);
        DUE.is("seemed", x.seemed(1, 9, 0, 8), 1);
    }

    private static void lastHour() {
        SoWhen x = lit();
        x.seen(0, 11, 0);
        x.was(0, 0, 11, 11, 0);
        DUE.is("what came of the last hour is not to be seen", x.least(), 0);
        DUE.is("courses", x.courses(), 1);
        DUE.is("could", x.could(11), 1);
        x.by(0, true);
        x.span(0, 11, 11, false, 0);
        DUE.is("least", x.least(), 3);
        DUE.is("must", x.must(0, 11, 11), 1);
    }

    private static void leavingOut() {
        SoWhen x = lit();
        x.was(0, 1, 3, 3, 0);
        x.was(0, 1, 2, 2, 0);
        x.was(0, 1, 5, 5, 0);
        DUE.is("why keeps the last that will do", x.why(0, 4), 4);
        DUE.is("to begin it has a price", x.why(0, 2), 4);
        x.price(0, 0);
        DUE.is("why", x.why(0, 4), 2);
        DUE.is("why", x.why(0, 5), 4);
        DUE.is("why", x.why(0, 2), 2);
        x.price(0, 3);
        x.was(0, 0, 0, 0, 0);
        DUE.is("why", x.why(0, 6), 4);
        DUE.is("since", x.since(0, 6), 2);
    }
}
