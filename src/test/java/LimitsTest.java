import java.util.function.Consumer;

/**
 * The limits that stand under "Terms": the last number inside each, and what the first outside it
 * answers; the empty and the full; where hours, values and texts begin and end.
 */
public final class LimitsTest {
    private static final Due DUE = new Due("LimitsTest");

    public static void main(String[] args) {
        empty();
        kindsOfThings();
        tenThings();
        happenings();
        keptAndFree();
        byOnes();
        runningValues();
        runningConditions();
        valuesInTexts();
        letters();
        longTexts();
        manyAlls();
        textsApart();
        effects();
        oneInAnHour();
        strictOnes();
        pieceHours();
        wasHours();
        neverHours();
        spanHours();
        sixteenPieces();
        mouths();
        rows();
        sorts();
        DUE.end();
    }

    private static SoWhen kept(String... laws) {
        SoWhen x = new SoWhen();
        x.thing(1, 0);
        for (String law : laws) {
            Due.law(x, law, 3, false);
        }
        return x;
    }

    private static SoWhen told(SoWhen x, Consumer<SoWhen> story) {
        story.accept(x);
        return x;
    }

    private static void empty() {
        SoWhen x = new SoWhen();
        DUE.is("least of nothing", x.least(), 0);
        DUE.is("courses of nothing", x.courses(), 1);
        DUE.is("quarrel of nothing", x.quarrel(), 0);
        DUE.is("out of nothing", x.out(), -1);
        for (int hour = 0; hour < 12; hour++) {
            DUE.is("could of nothing", x.could(hour), 64);
        }
        DUE.is("is of nothing", x.is(0, 0), -1);
        DUE.is("must of nothing", x.must(0, 0, 11), -1);
        DUE.is("act of nothing", x.act(0, 0, 5), 0);
        DUE.is("image of nothing", x.image(), 0);
        x.thing(1, 0);
        DUE.is("restore of nothing", x.restore(), 0);
        DUE.is("no things", x.status(0), 0);
        DUE.is("a thing's number begins again", x.thing(0, 0), 0);
        DUE.is("is of it", x.is(0, 0), 2);
        DUE.is("courses of one FREE", x.courses(), 4096);
        SoWhen y = kept();
        DUE.is("courses of one KEPT", y.courses(), 2);
        Due.law(y, ":b0", 0, false);
        DUE.is("of one that may happen each hour", y.courses(), 2 * 4096);
    }

    /** Of each kind as many as may be, then one more: of the others there still may be some. */
    private static void kindsOfThings() {
        int[] most = {2, 5, 3, 1};
        for (int kind = 0; kind < 4; kind++) {
            SoWhen x = new SoWhen();
            Due.write(x, 7, "0");
            x.thing(kind == 1 ? 0 : 1, 7);
            for (int i = 0; i < most[kind]; i++) {
                DUE.is("of kind " + kind, x.thing(kind, 7), 1 + i);
            }
            DUE.is("one more of kind " + kind, x.thing(kind, 7), -7);
            DUE.is("things of kind " + kind, x.status(0), 1 + most[kind]);
            for (int other = 0; other < 4; other++) {
                int due = other == kind ? -7 : x.status(0);
                DUE.is("of kind " + other + " after " + kind, x.thing(other, 7), due);
            }
        }
    }

    /** Ten are the most even where there is room in a kind: each kind comes last once. */
    private static void tenThings() {
        int[] most = {2, 5, 3, 1};
        for (int last = 0; last < 4; last++) {
            SoWhen x = new SoWhen();
            Due.write(x, 7, "0");
            int made = 0;
            for (int kind = 0; kind < 4; kind++) {
                for (int i = 0; i < most[kind] - (kind == last ? 1 : 0); i++) {
                    DUE.is("thing", x.thing(kind, 7), made);
                    made++;
                }
            }
            DUE.is("things", made, 10);
            DUE.is("is of the tenth", x.is(9, 11) == -1 ? 0 : 1, 1);
            DUE.is("an eleventh of kind " + last, x.thing(last, 7), -7);
            DUE.is("is of no eleventh", x.is(10, 11), -1);
            DUE.is("was of the tenth", x.was(9, 0, 0, 0, 0), 0);
            DUE.is("was of no eleventh", x.was(10, 0, 0, 0, 0), -1);
            DUE.is("a text may name the tenth", Due.law(x, "9:b2", 0, false), 0);
        }
    }

    private static void happenings() {
        SoWhen x = kept();
        Due.write(x, 7, ":b0");
        for (int i = 0; i < 6; i++) {
            DUE.is("happening", x.happening(7, i % 2 == 0 ? 0 : 99, false), i);
        }
        DUE.is("a seventh", x.happening(7, 0, false), -7);
        DUE.is("happenings", x.status(1), 6);
        DUE.is("seen the sixth", x.seen(5, 3, 0), 0);
        DUE.is("seen no seventh", x.seen(6, 3, 0), -1);
        DUE.is("could the sixth", x.could(3), 32);
        DUE.is("could the free ones, and none", x.could(4), 0b1010101);
        DUE.is("must the sixth", x.must(5, 3, 3), 1);
        DUE.is("must no seventh", x.must(6, 3, 3), -1);
        DUE.is("price of the sixth", x.price(5, 1), 99);
        DUE.is("price of the first", x.price(0, 1), 0);
        DUE.is("price of no seventh", x.price(6, 1), -1);
    }

    private static void keptAndFree() {
        SoWhen x = kept(":b0", ":e0");
        x.thing(0, 0);
        DUE.is("KEPT at hour 0 either", x.is(0, 0), 2);
        DUE.is("FREE at hour 0 either", x.is(1, 0), 2);
        x.was(0, 1, 0, 0, 0);
        x.was(1, 1, 4, 4, 0);
        DUE.is("KEPT as it was", x.is(0, 11), 1);
        DUE.is("FREE either", x.is(1, 3) + x.is(1, 5), 4);
        DUE.is("FREE as told", x.is(1, 4), 1);
        x.seen(1, 4, 0);
        DUE.is("ended in the hour ahead", x.is(0, 4) * 10 + x.is(0, 5), 10);
        x.seen(0, 10, 0);
        DUE.is("begun in the hour ahead", x.is(0, 10) * 10 + x.is(0, 11), 1);
        x.seen(1, 11, 0);
        DUE.is("what the last hour ends is not seen", x.is(0, 11), 1);
        DUE.is("courses", x.courses(), 2048);
    }

    private static void byOnes() {
        SoWhen x = new SoWhen();
        x.thing(0, 0);
        DUE.is("by one that is there", Due.thing(x, 2, "0"), 1);
        DUE.is("by itself", Due.thing(x, 2, "2"), -6);
        DUE.is("by one yet to come", Due.thing(x, 2, "0&3"), -6);
        DUE.is("fault", x.fault(), 2);
        DUE.is("by a BY one", Due.thing(x, 2, "!1"), 2);
        DUE.is("by both", Due.thing(x, 2, "1|2"), 3);
        x.was(0, 1, 6, 6, 0);
        DUE.is("in that hour", x.is(1, 6) * 100 + x.is(2, 6) * 10 + x.is(3, 6), 101);
        DUE.is("in another", x.is(1, 7) * 100 + x.is(2, 7) * 10 + x.is(3, 7), 221);
    }

    private static void runningValues() {
        SoWhen x = kept("1>6:z1");
        Due.thing(x, 3, "0");
        x.was(0, 1, 0, 11, 0);
        Due.law(x, "1>6:z1", 3, true);
        Due.law(x, ":z1", 3, true);
        for (int hour = 0; hour < 12; hour++) {
            int v = Math.min(hour, 7);
            DUE.is("value in hour " + hour, x.value(1, hour), 11 * v);
            DUE.is("is in hour " + hour, x.is(1, hour), hour == 0 ? 0 : 1);
        }
        x.seen(0, 6, 0);
        DUE.is("stilled at 7 alone", x.least(), -1);
        x.by(1, true);
        x.seen(0, 7, 0);
        DUE.is("stilled though its condition held", x.value(1, 8), 0);
        DUE.is("value after", x.value(1, 11), 33);
        SoWhen y = kept("0:e0");
        Due.thing(y, 3, "0");
        y.was(0, 1, 0, 0, 0);
        y.seen(0, 3, 0);
        DUE.is("as there where it held no more", y.value(1, 4), 44);
        DUE.is("as there", y.value(1, 11), 44);
        y.was(1, 3, 3, 3, 0);
        DUE.is("was its value", y.least(), 0);
        y.was(1, 4, 4, 11, 0);
        DUE.is("was its value in each hour", y.least(), 0);
        y.was(1, 4, 3, 4, 0);
        DUE.is("was not its value in one", y.least(), -1);
    }

    private static void runningConditions() {
        SoWhen x = new SoWhen();
        Due.thing(x, 3, "0");
        DUE.is("a running one by itself is of no thing that there is", x.fault(), 0);
        x.thing(0, 0);
        DUE.is("running", Due.thing(x, 3, "!0"), 1);
        x.was(0, 1, 0, 4, 0);
        x.was(0, 0, 5, 5, 0);
        DUE.is("by the hour ahead", x.value(1, 5), 0);
        DUE.is("by the hour ahead", x.value(1, 6), 11);
        DUE.is("either by one that is free", x.value(1, 7), 21);
        DUE.is("most and least", x.value(1, 11), 61);
        DUE.is("a BY one by it, of that hour", Due.thing(x, 2, "1>0"), 2);
        DUE.is("is", x.is(2, 5) * 10 + x.is(2, 6), 1);
    }

    /** Bounds 0 to 7: a value of 7 is above 6 and not above 7. */
    private static void valuesInTexts() {
        for (int bound = 0; bound <= 7; bound++) {
            SoWhen x = kept();
            Due.thing(x, 3, "0");
            x.was(0, 1, 0, 0, 0);
            DUE.is("above " + bound, Due.thing(x, 2, "1>" + bound), 2);
            DUE.is("not above " + bound, Due.thing(x, 2, "!1>" + bound), 3);
            DUE.is("between", Due.thing(x, 2, "1>" + bound / 2 + "&!1>" + bound), 4);
            for (int hour = 0; hour < 12; hour++) {
                int v = Math.min(hour, 7);
                DUE.is(v + " above " + bound, x.is(2, hour), v > bound ? 1 : 0);
                DUE.is(v + " not above " + bound, x.is(3, hour), v > bound ? 0 : 1);
                DUE.is(v + " between " + bound, x.is(4, hour), v > bound / 2 && v <= bound ? 1 : 0);
            }
        }
        SoWhen x = kept();
        Due.thing(x, 3, "0");
        DUE.is("above 8", Due.thing(x, 2, "1>8"), -6);
        DUE.is("fault", x.fault(), 2);
        x.was(0, 1, 0, 0, 0);
        Due.thing(x, 2, "!1>4&!1>2");
        Due.thing(x, 2, "!1>2&!1>4&1>0&1>1&1>0");
        DUE.is("the lesser bound counts", x.is(2, 2) * 10 + x.is(2, 3), 10);
        DUE.is("and the greater", x.is(3, 1) * 100 + x.is(3, 2) * 10 + x.is(3, 3), 10);
    }

    /** The signs just beside those that may stand. */
    private static void letters() {
        SoWhen x = kept();
        Due.thing(x, 3, "0");
        int[] beside = {'0' - 1, '2', '9', ':', ';', '&' - 1, '&' + 1, '|' - 1, '|' + 1, '!' - 1,
            '!' + 1, '>' - 1, '>' + 1, 0, -1, 'b', 'e', 'z', 256 + '0', 256 + '&'};
        for (int letter : beside) {
            Due.ints(x, 0, letter);
            DUE.is("first " + letter, x.thing(2, 0), -6);
            DUE.is("its fault", x.fault(), 0);
            Due.ints(x, 0, '0', letter);
            DUE.is("second " + letter, x.thing(2, 0), -6);
            DUE.is("its fault", x.fault(), 1);
            Due.ints(x, 0, '1', '>', letter);
            DUE.is("bound " + letter, x.thing(2, 0), letter == '2' ? 2 : -6);
            DUE.is("its fault", x.fault(), letter == '2' ? -1 : 2);
        }
        int[] besideEffects = {'b' - 1, 'b' + 1, 'e' - 1, 'e' + 1, 'z' - 1, 'z' + 1, 'B', 256 + 'b',
            '0', ':', '!', 0, -1};
        for (int letter : besideEffects) {
            Due.ints(x, 0, ':', letter, '0');
            DUE.is("effect " + letter, x.happening(0, 0, false), -6);
            DUE.is("its fault", x.fault(), 1);
            Due.ints(x, 0, ':', 'b', '0', letter, '0');
            DUE.is("effect " + letter, x.happening(0, 0, false), -6);
            DUE.is("its fault", x.fault(), 3);
        }
        for (int sort = 1; sort < 4; sort++) {
            x.row(0, sort, 3);
            x.set(0, 0, ':');
            x.set(0, 1, 'z');
            x.set(0, 2, '1' + (sort < 3 ? 0L : 5L << 32));
            DUE.is("a law in sort " + sort, x.happening(0, 0, false), sort - 1);
        }
    }

    private static String times(int n, String part, String last) {
        StringBuilder text = new StringBuilder();
        for (int i = 0; i < n; i++) {
            text.append(part);
        }
        return text.append(last).toString();
    }

    private static void longTexts() {
        SoWhen x = kept();
        DUE.is("of 60 letters", Due.thing(x, 2, times(29, "0&", "!0")), 1);
        DUE.is("of 60, ended too early", Due.thing(x, 2, times(30, "0|", "")), -6);
        DUE.is("its fault", x.fault(), 60);
        DUE.is("of 60, the last can't stand", Due.thing(x, 2, times(29, "0|", "0:")), -6);
        DUE.is("its fault", x.fault(), 59);
        DUE.is("a law of 60, ended too early", Due.law(x, "!0:" + times(28, "b0", "e"), 1, true),
                -6);
        DUE.is("its fault", x.fault(), 60);
        DUE.is("a law of 60, the last can't stand",
                Due.law(x, "!0:" + times(28, "b0", "0"), 1, true), -6);
        DUE.is("its fault", x.fault(), 59);
        DUE.is("a law of 60", Due.law(x, "0&0:" + times(27, "e0", "b0"), 1, true), 0);
        x.was(0, 1, 0, 0, 0);
        x.seen(0, 3, 0);
        DUE.is("its last effect counts", x.is(0, 4), 1);
        SoWhen y = kept();
        Due.law(y, ":" + times(28, "b0", "e0"), 1, false);
        y.was(0, 1, 0, 0, 0);
        y.seen(0, 3, 0);
        DUE.is("the last of 59 letters counts", y.is(0, 3) * 10 + y.is(0, 4), 10);
    }

    /** Thirty ALLs, of which the last alone is ever so; and thirty atoms in one ALL. */
    private static void manyAlls() {
        SoWhen x = kept();
        x.thing(0, 0);
        DUE.is("thirty ALLs", Due.thing(x, 2, times(29, "0|", "1")), 2);
        DUE.is("thirty ALLs and a !", Due.thing(x, 2, times(29, "0|", "!1")), 3);
        DUE.is("thirty atoms", Due.thing(x, 2, times(29, "1&", "0")), 4);
        DUE.is("the first of thirty ALLs", Due.law(x, "1" + times(28, "|0", ":b0"), 3, true), 0);
        x.was(0, 0, 0, 0, 0);
        x.was(1, 1, 5, 5, 0);
        x.was(1, 0, 6, 6, 0);
        DUE.is("the last is so", x.is(2, 5), 1);
        DUE.is("the last isn't so", x.is(2, 6), 0);
        DUE.is("with a !", x.is(3, 5) * 10 + x.is(3, 6), 1);
        DUE.is("the last atom isn't so", x.is(4, 5), 0);
        x.seen(0, 5, 0);
        DUE.is("by the first", x.is(0, 6), 1);
        x.seen(0, 8, 0);
        DUE.is("all atoms are so", x.is(4, 8), x.is(1, 8));
    }

    /** What one text says is forgotten when the next is read. */
    private static void textsApart() {
        SoWhen x = kept();
        x.thing(1, 0);
        Due.thing(x, 3, "0");
        Due.law(x, "!0:z2b0e1", 0, false);
        Due.law(x, ":b1", 0, false);
        Due.law(x, "1:e0", 0, false);
        x.was(0, 1, 0, 3, 0);
        x.was(1, 0, 0, 2, 0);
        x.span(0, 0, 11, true, 0);
        x.seen(1, 2, 0);
        DUE.is("it stills nothing", x.value(2, 3), 33);
        DUE.is("it begins that alone", x.is(0, 3) * 10 + x.is(1, 3), 11);
        x.seen(2, 3, 0);
        DUE.is("it ends that alone", x.is(0, 4) * 10 + x.is(1, 4), 1);
        DUE.is("as there", x.value(2, 4), 44);
        SoWhen y = kept();
        DUE.is("half a law", Due.law(y, "!0:b0e0b", 1, false), -6);
        DUE.is("then one of no condition", Due.law(y, ":b0", 1, true), 0);
        DUE.is("half a condition", Due.thing(y, 2, "!0|!0&"), -6);
        DUE.is("then a whole one", Due.thing(y, 2, "0"), 1);
        y.was(0, 1, 0, 0, 0);
        y.seen(0, 2, 0);
        DUE.is("no condition stands", y.least(), 0);
        DUE.is("nor an ALL", y.is(1, 2), 1);
    }

    private static void effects() {
        String[] laws = {":b0e0", ":e0b0", ":b0e0b0", ":e0b0e0", ":b0b0e0b1", ":e0e0b0e1"};
        int[] after = {0, 1, 1, 0, 0, 1};
        for (int i = 0; i < laws.length; i++) {
            for (int v = 0; v < 2; v++) {
                SoWhen x = kept();
                x.thing(1, 0);
                Due.law(x, laws[i], 1, true);
                x.was(0, v, 4, 4, 0);
                x.seen(0, 4, 0);
                DUE.is(laws[i] + " from " + v, x.is(0, 5), after[i]);
                DUE.is(laws[i] + " on the other", x.is(1, 5), i < 4 ? 2 : 5 - i);
            }
        }
        SoWhen x = kept();
        Due.thing(x, 3, "0");
        x.thing(0, 0);
        Due.thing(x, 2, "0");
        for (char effect : new char[] {'b', 'e', 'z'}) {
            for (int thing = 0; thing < 5; thing++) {
                boolean fits = thing == (effect == 'z' ? 1 : 0);
                int made = x.status(1);
                DUE.is(effect + " of " + thing, Due.law(x, ":" + effect + thing, 1, true),
                        fits ? made : -6);
                DUE.is("its fault", x.fault(), fits ? -1 : 2);
            }
        }
    }

    private static void oneInAnHour() {
        SoWhen x = kept(":b0", ":e0");
        x.seen(0, 4, 0);
        x.seen(0, 4, 1);
        DUE.is("the same twice is once", x.least(), 0);
        x.seen(1, 5, 0);
        DUE.is("another in the next hour", x.least(), 0);
        x.seen(1, 4, 0);
        DUE.is("two in an hour", x.least(), -1);
        DUE.is("quarrel", x.quarrel(), 0b1010);
        SoWhen y = kept(":b0", ":e0");
        y.span(0, 4, 4, false, 0);
        y.span(1, 4, 4, false, 0);
        DUE.is("two spans of one hour", y.least(), -1);
        SoWhen z = kept(":b0", ":e0");
        z.span(0, 4, 5, false, 0);
        z.span(1, 4, 5, false, 0);
        DUE.is("two spans of two hours", z.least(), 6);
        DUE.is("either first", z.courses(), 4);
        DUE.is("could", z.could(4), 3);
    }

    private static void strictOnes() {
        for (int i = 0; i < 2; i++) {
            boolean strict = i == 1;
            SoWhen x = new SoWhen();
            x.thing(1, 0);
            Due.law(x, "!0:b0", 2, strict);
            x.was(0, 1, 0, 0, 0);
            DUE.is("could in hour 0 " + strict, x.could(0), 64);
            x.price(0, 0);
            DUE.is("could for nothing " + strict, x.could(0), strict ? 64 : 65);
            DUE.is("courses " + strict, x.courses(), strict ? 1 : 4096);
            x.seen(0, 11, 0);
            DUE.is("in the last hour " + strict, x.least(), strict ? -1 : 0);
        }
    }

    private static void pieceHours() {
        for (int hour = 0; hour < 12; hour++) {
            int at = hour;
            SoWhen seen = told(kept(":b0"), x -> x.seen(0, at, 0));
            DUE.is("seen in " + hour, seen.could(hour), 1);
            DUE.is("seen there alone", seen.must(0, 0, 11), 1);
            for (int other = 0; other < 12; other++) {
                DUE.is("seen in " + hour + ", in " + other, seen.could(other),
                        other == hour ? 1 : 64);
            }
            SoWhen span = told(kept(":b0"), x -> x.span(0, at, at, false, 0));
            DUE.is("span in " + hour, span.could(hour), 1);
            DUE.is("its price is not told away", span.least(), 3);
            SoWhen never = told(kept(":b0"), x -> x.span(0, at, at, true, 0));
            never.price(0, 0);
            DUE.is("never in " + hour, never.could(hour), 64);
            DUE.is("never there alone", never.courses(), 2 * 2048);
            SoWhen was = told(new SoWhen(), x -> x.thing(0, 0));
            was.was(0, hour % 2, hour, hour, 0);
            DUE.is("was in " + hour, was.is(0, hour), hour % 2);
            DUE.is("was there alone", was.courses(), 2048);
        }
    }

    private static void wasHours() {
        for (int v = 0; v < 2; v++) {
            SoWhen x = new SoWhen();
            x.thing(0, 0);
            x.was(0, v, 3, 8, 0);
            for (int hour = 0; hour < 12; hour++) {
                DUE.is("was from 3 to 8, in " + hour, x.is(0, hour),
                        hour < 3 || hour > 8 ? 2 : v);
            }
            x.was(0, v, 0, 11, 0);
            DUE.is("was from 0 to 11", x.courses(), 1);
            x.was(0, 1 - v, 11, 11, 0);
            DUE.is("but not in 11", x.least(), -1);
        }
    }

    private static void neverHours() {
        SoWhen x = kept(":b0");
        x.price(0, 0);
        x.span(0, 3, 8, true, 0);
        for (int hour = 0; hour < 12; hour++) {
            DUE.is("never from 3 to 8, in " + hour, x.could(hour), hour < 3 || hour > 8 ? 65 : 64);
        }
        x.span(0, 0, 11, true, 0);
        DUE.is("never at all", x.must(0, 0, 11), 0);
        x.seen(0, 0, 0);
        DUE.is("but seen", x.least(), -1);
    }

    private static void spanHours() {
        SoWhen x = kept(":b0");
        x.span(0, 3, 8, false, 0);
        for (int hour = 0; hour < 12; hour++) {
            DUE.is("span from 3 to 8, in " + hour, x.could(hour), hour < 3 || hour > 8 ? 64 : 65);
        }
        DUE.is("once there", x.must(0, 3, 8), 1);
        DUE.is("not surely in fewer", x.must(0, 3, 7) * 10 + x.must(0, 4, 8), 22);
        x.span(0, 8, 11, false, 0);
        DUE.is("one for both in 8", x.could(8), 1);
        x.span(0, 8, 8, true, 0);
        DUE.is("two then", x.least(), 6);
        x.span(0, 0, 7, true, 0);
        DUE.is("none for the first", x.least(), -1);
        x.by(0, true);
        DUE.is("one for the other", x.least(), 3);
        DUE.is("could", x.could(8) * 1000 + x.could(11), 64065);
        SoWhen y = kept(":b0");
        y.span(0, 0, 11, false, 0);
        DUE.is("span of all hours", y.courses(), 12 * 2);
        y.span(0, 0, 11, false, 0);
        DUE.is("twice the same span", y.least(), 3);
        y.seen(0, 5, 0);
        DUE.is("what is seen came", y.least(), 0);
    }

    private static void sixteenPieces() {
        SoWhen x = kept(":b0");
        Due.ints(x, 0, 2, 0, 11, 11, 1);
        for (int i = 0; i < 16; i++) {
            DUE.is("pieces", x.status(2), i);
            DUE.is("no such piece", x.pieceOf(i, 0), -5);
            DUE.is("sheet", x.sheet(0, 0, 5, i % 6), 1);
            DUE.is("piece", x.pieceOf(i, 5), i % 6);
        }
        DUE.is("a seventeenth was", x.was(0, 1, 0, 0, 0), -7);
        DUE.is("a seventeenth seen", x.seen(0, 0, 0), -7);
        DUE.is("a seventeenth span", x.span(0, 0, 0, false, 0), -7);
        DUE.is("a seventeenth never", x.span(0, 0, 0, true, 0), -7);
        DUE.is("none by a sheet", x.sheet(0, 0, 5, 0), 0);
        x.by(15, true);
        DUE.is("nor where one is put by", x.seen(0, 0, 0), -7);
        DUE.is("put by", x.status(3), 1);
        for (int i = 0; i < 15; i++) {
            DUE.is("by", x.by(i, true), 1);
        }
        DUE.is("all put by", x.status(3), 16);
        DUE.is("as none were told", x.is(0, 11), 2);
        DUE.is("the last taken in", x.by(15, false), 1);
        DUE.is("why", x.why(0, 11), 1 << 15);
    }

    private static void mouths() {
        SoWhen x = kept(":b0");
        for (int mouth = 0; mouth < 6; mouth++) {
            DUE.is("weight at first", x.weigh(mouth, mouth == 0 ? 0 : 99), 1);
            DUE.is("weight", x.weigh(mouth, 50 + mouth), mouth == 0 ? 0 : 99);
            DUE.is("was", x.was(0, 1, mouth, mouth, mouth), mouth);
            DUE.is("its mouth", x.pieceOf(mouth, 5), mouth);
            DUE.is("seemed", x.seemed(mouth, mouth, 0, 11), 1);
        }
    }

    private static void rows() {
        SoWhen x = new SoWhen();
        for (int sort = 0; sort < 4; sort++) {
            DUE.is("row of 60", x.row(7, sort, 60), 1);
            DUE.is("holds", x.holds(7), 100 + sort);
            for (int i = 0; i < 60; i++) {
                DUE.is("0 at first", x.element(7, i), 0);
            }
            DUE.is("the last", x.set(7, 59, -1), 1);
            DUE.is("the first", x.set(7, 0, 1), 1);
            DUE.is("the last", x.element(7, 59), -1);
            DUE.is("no more", x.element(7, 60), 0);
            DUE.is("row of none", x.row(7, sort, 0), 1);
            DUE.is("holds", x.holds(7), 100 + sort);
            DUE.is("no element", x.set(7, 0, 1), -5);
            DUE.is("a row of 60 again", x.row(7, sort, 60), 1);
            DUE.is("is new", x.element(7, 59), 0);
            DUE.is("all of it", x.copy(7, 7, 0, 0, 60), 1);
        }
    }

    private static void sorts() {
        int[] bits = {8, 16, 32, 64};
        SoWhen x = new SoWhen();
        for (int sort = 0; sort < 4; sort++) {
            x.row(sort, sort, 2);
            long most = -1L >>> 65 - bits[sort];
            long[] values = {most, most + 1, -most - 1, -most - 2, 0, -1, 1L << 40, 255, 65535};
            for (long v : values) {
                int away = 64 - bits[sort];
                DUE.is("set", x.set(sort, 1, v), 1);
                DUE.is(v + " in sort " + sort, x.element(sort, 1), v << away >> away);
            }
        }
    }
}
