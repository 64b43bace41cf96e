/** Promises 20 to 38 at their edges: the least and the most that each can answer, and next to it. */
public final class AnswersTest {
    private static final Due DUE = new Due("AnswersTest");

    public static void main(String[] args) {
        leastAndMostPrice();
        sumsOfPrices();
        mostCourses();
        isInEachHour();
        values();
        whyBits();
        whyByTurns();
        quarrelBits();
        quarrelOfOne();
        outByWeight();
        outOfSixteen();
        outOfNone();
        mustEdges();
        couldAll();
        everAndLong();
        sinceEdges();
        planHours();
        planConditions();
        planAgainstPieces();
        seemedEdges();
        DUE.end();
    }

    private static SoWhen kept(String... laws) {
        SoWhen x = new SoWhen();
        x.thing(1, 0);
        for (String law : laws) {
            Due.law(x, law, 3, false);
        }
        return x;
    }

    /** Twelve happenings of 99 each, one for each hour; and what is told of them is for nothing. */
    private static void leastAndMostPrice() {
        SoWhen x = kept(":b0", ":e0");
        for (int hour = 0; hour < 12; hour++) {
            x.was(0, hour % 2, hour, hour, 0);
        }
        DUE.is("eleven", x.least(), 33);
        x.span(1, 11, 11, false, 0);
        DUE.is("twelve", x.least(), 36);
        x.price(0, 99);
        x.price(1, 99);
        DUE.is("the most", x.least(), 12 * 99);
        DUE.is("courses", x.courses(), 1);
        x.seen(0, 0, 0);
        DUE.is("one told", x.least(), 11 * 99);
        x.seen(1, 11, 0);
        DUE.is("one told that is in a span", x.least(), 10 * 99);
        x.price(0, 0);
        x.price(1, 0);
        DUE.is("for nothing", x.least(), 0);
        x.was(0, 0, 11, 11, 0);
        DUE.is("none", x.least(), -1);
        DUE.is("courses", x.courses(), 0);
    }

    private static void sumsOfPrices() {
        SoWhen x = kept(":b0", ":b0", ":e0");
        x.price(0, 1);
        x.price(1, 2);
        x.was(0, 0, 0, 0, 0);
        x.was(0, 1, 5, 5, 0);
        DUE.is("the cheaper", x.least(), 1);
        DUE.is("could", x.could(0), 65);
        x.price(0, 2);
        DUE.is("either", x.could(0), 67);
        DUE.is("courses", x.courses(), 10);
        x.seen(1, 3, 0);
        DUE.is("told", x.least(), 0);
        DUE.is("courses", x.courses(), 1);
        x.span(0, 0, 11, true, 0);
        x.by(2, true);
        DUE.is("never the one", x.could(0), 66);
        x.price(2, 0);
        DUE.is("one for nothing may happen and happen again", x.least(), 2);
        DUE.is("could", x.could(11), 68);
        DUE.is("must not end it in the hour ahead", x.could(4), 66);
    }

    /** Choices by hour are as many as NEVER leaves; FREE and KEPT things make 2 to the 29th. */
    private static SoWhen manyCourses(int... fromHours) {
        SoWhen x = new SoWhen();
        x.thing(0, 0);
        x.thing(0, 0);
        for (int i = 0; i < 5; i++) {
            x.thing(1, 0);
        }
        Due.write(x, 7, ":b2");
        for (int i = 0; i < 6; i++) {
            x.happening(7, 0, true);
        }
        for (int i = 0; i < fromHours.length; i++) {
            x.span(i, fromHours[i], 11, true, 0);
        }
        return x;
    }

    private static void mostCourses() {
        SoWhen under = manyCourses(7, 8, 11, 11);
        DUE.is("just under the most", under.courses(), 994_806_633_332_736_000L);
        SoWhen over = manyCourses(4, 9, 11);
        DUE.is("just above", over.courses(), 1_000_000_000_000_000_000L);
        over.was(2, 1, 0, 0, 0);
        DUE.is("half of that", over.courses(), 1_002_347_441_632_051_200L / 2);
        DUE.is("far above", manyCourses().courses(), 1_000_000_000_000_000_000L);
        SoWhen one = manyCourses(0, 0, 0, 0, 0, 0);
        DUE.is("nothing happens", one.courses(), 1L << 29);
        for (int i = 0; i < 7; i++) {
            one.was(i, 0, 0, i < 2 ? 11 : 0, 0);
        }
        DUE.is("one", one.courses(), 1);
        one.was(6, 1, 11, 11, 0);
        DUE.is("none", one.courses(), 0);
    }

    private static void isInEachHour() {
        SoWhen x = kept(":b0");
        x.was(0, 0, 5, 5, 0);
        x.was(0, 1, 7, 7, 0);
        for (int hour = 0; hour < 12; hour++) {
            DUE.is("is in " + hour, x.is(0, hour), hour < 6 ? 0 : hour > 6 ? 1 : 2);
        }
        SoWhen y = new SoWhen();
        y.thing(1, 0);
        for (int hour = 0; hour < 12; hour++) {
            DUE.is("either in " + hour, y.is(0, hour), 2);
        }
    }

    private static void values() {
        SoWhen x = new SoWhen();
        x.thing(0, 0);
        Due.thing(x, 3, "0");
        for (int hour = 0; hour < 12; hour++) {
            DUE.is("value in " + hour, x.value(1, hour), 10 * Math.min(hour, 7));
            DUE.is("is in " + hour, x.is(1, hour), hour == 0 ? 0 : 2);
        }
        x.was(1, 7, 7, 7, 0);
        DUE.is("there all hours ahead", x.value(1, 6), 66);
        DUE.is("and the most stays", x.value(1, 11), 77);
        x.was(1, 7, 6, 6, 0);
        DUE.is("too early", x.least(), -1);
        DUE.is("value", x.value(1, 6), -1);
        x.by(1, true);
        x.by(0, true);
        x.was(1, 0, 11, 11, 0);
        DUE.is("never", x.value(1, 11), 0);
        DUE.is("nor earlier", x.is(0, 10) * 10 + x.is(0, 11), 2);
    }

    private static void whyBits() {
        SoWhen x = kept(":b0");
        for (int i = 0; i < 15; i++) {
            x.was(0, 1, i % 12, i % 12, 0);
        }
        DUE.is("the last of fifteen", x.why(0, 11), 1 << 14);
        x.was(0, 1, 0, 11, 0);
        DUE.is("the sixteenth", x.why(0, 11), 1 << 15);
        x.by(15, true);
        DUE.is("but for the one put by", x.why(0, 11), 1 << 14);
        for (int i = 0; i < 15; i++) {
            x.by(i, i > 0);
        }
        DUE.is("the first", x.why(0, 11), 1);
        x.by(0, true);
        DUE.is("of none: either", x.why(0, 11), -1);
        SoWhen y = kept();
        Due.thing(y, 2, "0&!0");
        y.was(1, 0, 3, 3, 0);
        DUE.is("by laws alone", y.why(1, 3), 0);
        y.was(0, 1, 4, 4, 0);
        DUE.is("each needed alone", y.why(0, 0), 2);
        y.was(1, 1, 3, 3, 0);
        DUE.is("no course", y.why(0, 0), -1);
    }

    /** Each is left out only by what is left: of two pairs that will do, the later one stays. */
    private static void whyByTurns() {
        SoWhen x = new SoWhen();
        x.thing(0, 0);
        x.thing(0, 0);
        Due.thing(x, 2, "0&1");
        x.was(0, 1, 4, 4, 0);
        x.was(1, 1, 4, 4, 0);
        DUE.is("both", x.why(2, 4), 3);
        x.was(2, 1, 4, 4, 0);
        DUE.is("the later one alone", x.why(2, 4), 4);
        x.was(0, 1, 3, 5, 0);
        x.by(2, true);
        DUE.is("the second and the last", x.why(2, 4), 10);
        x.was(0, 0, 6, 6, 0);
        DUE.is("why not", x.why(2, 6), 16);
        x.was(1, 0, 6, 6, 0);
        DUE.is("why not: the later", x.why(2, 6), 32);
        SoWhen y = kept(":b0");
        y.was(0, 0, 0, 0, 0);
        y.was(0, 1, 5, 5, 0);
        y.seen(0, 2, 0);
        DUE.is("what is seen", y.why(0, 5), 4);
        DUE.is("what was at first", y.why(0, 2), 1);
    }

    private static void quarrelBits() {
        SoWhen x = kept(":b0");
        x.was(0, 1, 0, 0, 0);
        for (int i = 1; i < 15; i++) {
            x.was(0, 1, i % 12, 11, 0);
        }
        DUE.is("none", x.quarrel(), 0);
        x.was(0, 0, 11, 11, 0);
        DUE.is("the last two", x.quarrel(), 1 << 15 | 1 << 14);
        for (int i = 1; i < 15; i++) {
            x.by(i, true);
        }
        DUE.is("the first and the last", x.quarrel(), 1 << 15 | 1);
        x.by(15, true);
        DUE.is("none", x.quarrel(), 0);
        x.by(15, false);
        x.by(0, true);
        DUE.is("none by one", x.quarrel(), 0);
    }

    private static void quarrelOfOne() {
        SoWhen x = kept(":b0");
        Due.thing(x, 3, "0");
        x.was(0, 1, 3, 3, 0);
        x.was(1, 1, 0, 0, 0);
        DUE.is("one against the laws", x.quarrel(), 2);
        DUE.is("out", x.out(), 1);
        x.was(1, 2, 1, 1, 0);
        DUE.is("two, each against the laws: the later stays", x.quarrel(), 4);
        DUE.is("out: none alone", x.out(), -1);
        x.by(1, true);
        DUE.is("out", x.out(), 2);
        x.by(2, true);
        DUE.is("none", x.quarrel(), 0);
        DUE.is("out", x.out(), -1);
        SoWhen y = kept("!0:b0");
        Due.law(y, "0:e0", 2, true);
        y.seen(1, 0, 0);
        y.seen(1, 1, 0);
        DUE.is("a strict one twice", y.quarrel(), 3);
        y.seen(0, 1, 5);
        DUE.is("two of an hour: the later ones stay", y.quarrel(), 6);
        DUE.is("out of both", y.out(), 1);
        y.weigh(0, 99);
        DUE.is("out by what it alone mends", y.out(), 1);
    }

    private static void outByWeight() {
        SoWhen x = kept(":b0");
        x.was(0, 1, 3, 3, 2);
        x.was(0, 0, 3, 3, 4);
        DUE.is("the least number", x.out(), 0);
        x.weigh(2, 99);
        x.weigh(4, 99);
        DUE.is("the least number of the heaviest", x.out(), 0);
        x.weigh(4, 98);
        DUE.is("one less", x.out(), 1);
        x.weigh(2, 0);
        DUE.is("no weight", x.out(), 0);
        x.weigh(4, 0);
        DUE.is("the least number of no weight", x.out(), 0);
        x.weigh(2, 1);
        DUE.is("one more", x.out(), 1);
        x.was(0, 0, 4, 4, 4);
        x.weigh(4, 99);
        x.weigh(2, 99);
        DUE.is("the one that mends it, though heavy", x.out(), 0);
        x.weigh(4, 0);
        DUE.is("a light one does not mend it", x.out(), 0);
        x.by(0, true);
        DUE.is("there is a course", x.out(), -1);
        x.by(0, false);
        x.by(1, true);
        DUE.is("one that is put by can't be left out", x.out(), 2);
    }

    private static void outOfSixteen() {
        SoWhen x = kept(":b0");
        for (int i = 0; i < 15; i++) {
            x.was(0, 1, 0, 5, 0);
        }
        x.was(0, 0, 9, 9, 1);
        DUE.is("the sixteenth", x.out(), 15);
        x.weigh(1, 99);
        DUE.is("the sixteenth alone mends it", x.out(), 15);
        for (int i = 1; i < 15; i++) {
            x.by(i, true);
        }
        DUE.is("the first", x.out(), 0);
        x.weigh(0, 99);
        DUE.is("the first of the two", x.out(), 0);
        x.weigh(1, 98);
        DUE.is("the sixteenth", x.out(), 15);
    }

    private static void outOfNone() {
        SoWhen x = new SoWhen();
        x.thing(0, 0);
        DUE.is("of no pieces", x.out(), -1);
        for (int hour = 0; hour < 2; hour++) {
            x.was(0, 1, hour, hour, 0);
            x.was(0, 0, hour, hour, 1);
        }
        DUE.is("two quarrels", x.out(), -1);
        DUE.is("the later of them", x.quarrel(), 0b1100);
        x.by(0, true);
        DUE.is("one quarrel", x.out(), 2);
    }

    private static void mustEdges() {
        SoWhen x = kept("0:b0", ":e0");
        x.price(0, 0);
        x.seen(0, 0, 0);
        x.was(0, 0, 0, 0, 0);
        x.seen(1, 11, 0);
        DUE.is("it happens though it does nothing", x.must(0, 0, 0), 1);
        DUE.is("is", x.is(0, 1), 0);
        DUE.is("in the last hour", x.must(1, 11, 11), 1);
        DUE.is("in the hours ahead", x.must(1, 0, 10), 0);
        DUE.is("in all hours", x.must(1, 0, 11), 1);
        DUE.is("some later", x.must(0, 1, 10), 2);
        DUE.is("not in the last", x.must(0, 11, 11), 0);
        DUE.is("could", x.could(0) * 100 + x.could(11), 102);
        x.span(0, 1, 10, true, 0);
        DUE.is("never later", x.must(0, 1, 10), 0);
        DUE.is("but at first", x.must(0, 0, 10), 1);
    }

    private static void couldAll() {
        SoWhen x = new SoWhen();
        x.thing(1, 0);
        Due.write(x, 7, ":b0");
        for (int i = 0; i < 6; i++) {
            DUE.is("could of " + i, x.could(0), 64 + (1 << i) - 1);
            x.happening(7, 0, true);
        }
        for (int hour = 0; hour < 12; hour++) {
            DUE.is("could all in " + hour, x.could(hour), 127);
        }
        for (int i = 0; i < 6; i++) {
            x.span(i, 4, 4, true, 0);
        }
        DUE.is("none", x.could(4), 64);
        x.seen(5, 5, 0);
        DUE.is("the last", x.could(5), 32);
        x.seen(0, 6, 0);
        DUE.is("the first", x.could(6), 1);
    }

    private static void everAndLong() {
        SoWhen x = new SoWhen();
        x.thing(0, 0);
        DUE.is("some", x.ever(0, 0, 11), 2);
        DUE.is("from none to all", x.howLong(0, 0, 11), 1200);
        DUE.is("of one hour", x.howLong(0, 11, 11), 100);
        x.was(0, 1, 11, 11, 0);
        DUE.is("in the last", x.ever(0, 0, 11), 1);
        DUE.is("not surely ahead", x.ever(0, 0, 10), 2);
        DUE.is("at least one", x.howLong(0, 0, 11), 1201);
        x.was(0, 0, 0, 9, 0);
        DUE.is("in none", x.ever(0, 0, 9), 0);
        DUE.is("in none", x.howLong(0, 0, 9), 0);
        DUE.is("one or two", x.howLong(0, 0, 11), 201);
        DUE.is("one or none", x.howLong(0, 9, 10), 100);
        DUE.is("in the first", x.ever(0, 0, 0), 0);
        x.by(1, true);
        x.was(0, 1, 0, 11, 0);
        DUE.is("in all", x.howLong(0, 0, 11), 1212);
        DUE.is("in all of one", x.howLong(0, 5, 5), 101);
        DUE.is("ever in the first", x.ever(0, 0, 0), 1);
    }

    private static void sinceEdges() {
        SoWhen x = kept(":b0", ":e0");
        x.was(0, 1, 0, 0, 0);
        for (int hour = 0; hour < 12; hour++) {
            DUE.is("since the first", x.since(0, hour), 0);
        }
        x.was(0, 0, 4, 4, 0);
        x.was(0, 1, 8, 8, 0);
        DUE.is("since, in the first", x.since(0, 0), 0);
        DUE.is("either there", x.since(0, 3), -1);
        DUE.is("not so there", x.since(0, 4), -1);
        DUE.is("either there", x.since(0, 7), -1);
        DUE.is("since that hour", x.since(0, 8), 8);
        DUE.is("since that hour", x.since(0, 11), 8);
        x.seen(0, 6, 0);
        DUE.is("since one hour ahead", x.since(0, 11), 7);
        x.thing(0, 0);
        x.was(1, 1, 11, 11, 0);
        DUE.is("since the last", x.since(1, 11), 11);
    }

    private static void planHours() {
        SoWhen x = kept(":e0", ":b0", ":b0");
        x.was(0, 0, 0, 0, 0);
        DUE.is("at once", x.plan(0, 0, 11), 1);
        DUE.is("the last hour", x.plan(0, 10, 11), 101);
        DUE.is("the next", x.plan(0, 0, 1), 1);
        DUE.is("hours", x.plan(0, 11, 11) + x.plan(0, 11, 12) + x.plan(0, -1, 11), -3);
        x.seen(0, 0, 0);
        DUE.is("not in an hour in which one is seen", x.plan(0, 0, 11), 11);
        DUE.is("then none", x.plan(0, 0, 1), -1);
        x.by(1, true);
        DUE.is("that is put by", x.plan(0, 0, 1), 1);
        x.by(1, false);
        x.was(0, 0, 4, 4, 0);
        DUE.is("not ahead of what was not", x.plan(0, 0, 11), 41);
        DUE.is("it can't be so there", x.plan(0, 0, 4), -1);
        x.span(1, 0, 9, true, 0);
        DUE.is("another", x.plan(0, 0, 11), 42);
        x.span(2, 0, 9, true, 0);
        DUE.is("the last hour", x.plan(0, 0, 11), 101);
        x.was(0, 0, 11, 11, 0);
        DUE.is("none", x.plan(0, 0, 11), -1);
        SoWhen y = kept(":b0");
        y.seen(0, 3, 0);
        y.seen(0, 5, 0);
        DUE.is("the first piece is seen there", y.plan(0, 3, 4), -1);
        DUE.is("between them", y.plan(0, 3, 5), 40);
        DUE.is("the last piece is seen there", y.plan(0, 5, 6), -1);
        DUE.is("after them", y.plan(0, 5, 11), 60);
    }

    private static void planConditions() {
        SoWhen x = kept();
        x.thing(0, 0);
        x.thing(1, 0);
        Due.law(x, "1:b0", 1, false);
        Due.law(x, "1|!1:b0", 1, true);
        Due.law(x, "0&!0:b0", 1, false);
        x.was(0, 0, 0, 0, 0);
        DUE.is("one that holds surely", x.plan(0, 0, 3), 1);
        x.price(1, 0);
        x.span(1, 0, 11, true, 0);
        DUE.is("one that is either", x.plan(0, 0, 3), -1);
        x.was(1, 1, 2, 2, 0);
        DUE.is("one that holds there", x.plan(0, 0, 3), 20);
        DUE.is("not by then", x.plan(0, 0, 2), -1);
        x.was(2, 1, 5, 5, 0);
        DUE.is("what is so anyway is so by any, seen where it may", x.plan(2, 2, 5), 20);
        DUE.is("but its condition must hold", x.plan(2, 3, 5), -1);
    }

    private static void planAgainstPieces() {
        SoWhen x = kept(":b0");
        x.thing(1, 0);
        Due.law(x, ":e0", 2, false);
        Due.law(x, ":b1", 2, false);
        x.was(0, 0, 0, 3, 0);
        x.span(2, 1, 3, false, 0);
        x.was(0, 1, 7, 7, 0);
        DUE.is("must", x.must(0, 3, 6), 1);
        DUE.is("is either till then", x.is(0, 5), 2);
        DUE.is("the hours of the span", x.plan(0, 0, 4), 30);
        DUE.is("as early as may be", x.plan(0, 0, 6), 30);
        DUE.is("by then", x.plan(0, 5, 6), 50);
        DUE.is("what is so anyway, by the first that may be seen", x.plan(0, 0, 7), 1);
        x.seen(0, 9, 0);
        x.seen(1, 8, 0);
        DUE.is("against what is seen later", x.plan(0, 6, 9), -1);
        DUE.is("what is seen brings it", x.plan(0, 6, 10), 60);
    }

    private static void seemedEdges() {
        SoWhen x = kept(":b0");
        x.was(0, 1, 0, 0, 3);
        x.was(0, 0, 0, 11, 4);
        x.seen(0, 11, 5);
        x.span(0, 2, 7, false, 0);
        DUE.is("no course for all", x.is(0, 0), -1);
        DUE.is("by the first hour", x.seemed(3, 0, 0, 11), 1);
        DUE.is("by the last", x.seemed(4, 11, 0, 0), 0);
        DUE.is("not yet", x.seemed(4, 10, 0, 0), 2);
        DUE.is("seen in the last", x.seemed(5, 11, 0, 11), 2);
        DUE.is("by its last hour", x.seemed(0, 7, 0, 8), 1);
        DUE.is("not by the one ahead", x.seemed(0, 6, 0, 8), 2);
        DUE.is("not by its first", x.seemed(0, 2, 0, 8), 2);
        DUE.is("to one who told nothing", x.seemed(1, 11, 0, 0), 2);
        x.by(0, true);
        DUE.is("put by", x.seemed(3, 11, 0, 11), 2);
        x.was(0, 1, 5, 5, 4);
        DUE.is("no course", x.seemed(4, 11, 0, 0), -1);
        DUE.is("a course by then", x.seemed(4, 5, 0, 0), 1);
        DUE.is("is by then", x.seemed(4, 5, 0, 5), 1);
    }
}
