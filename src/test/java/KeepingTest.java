/**
 * Promises 4 to 8 and 34 to 38 at their edges: copying from end to end, pieces in shelves, acts that
 * wrap, traces, images and what they leave as it is, counts.
 */
public final class KeepingTest {
    private static final Due DUE = new Due("KeepingTest");
    private static final int MOST = Integer.MAX_VALUE;
    private static final int LEAST = Integer.MIN_VALUE;

    public static void main(String[] args) {
        copying();
        copyingWithin();
        showing();
        saying();
        sheets();
        wrapping();
        tracing();
        imageOfAll();
        imageOfTables();
        imagesInShelves();
        imagesInTurn();
        leftByImages();
        manyRefusals();
        DUE.end();
    }

    private static SoWhen kept(String... laws) {
        SoWhen x = new SoWhen();
        x.thing(1, 0);
        for (String law : laws) {
            Due.law(x, law, 3, false);
        }
        return x;
    }

    private static void count(SoWhen x, int shelf, int sort, int n) {
        x.row(shelf, sort, n);
        for (int i = 0; i < n; i++) {
            x.set(shelf, i, 10 + i);
        }
    }

    private static void copying() {
        for (int sort = 0; sort < 4; sort++) {
            SoWhen x = new SoWhen();
            count(x, 0, sort, 60);
            x.row(7, sort, 60);
            DUE.is("none", x.copy(0, 7, 60, 60, 0), 1);
            DUE.is("the first to the last", x.copy(0, 7, 0, 59, 1), 1);
            DUE.is("the last to the first", x.copy(0, 7, 59, 0, 1), 1);
            DUE.is("copied", x.element(7, 0) * 100 + x.element(7, 59), 6910);
            DUE.is("no other", x.element(7, 1) + x.element(7, 58), 0);
            DUE.is("all", x.copy(0, 7, 0, 0, 60), 1);
            for (int i = 0; i < 60; i++) {
                DUE.is("copied", x.element(7, i), 10 + i);
            }
            DUE.is("what is copied stays", x.element(0, 59), 69);
        }
        SoWhen x = new SoWhen();
        x.row(0, 2, 0);
        x.row(1, 2, 0);
        DUE.is("none of empty ones", x.copy(0, 1, 0, 0, 0), 1);
        DUE.is("none of one", x.copy(0, 0, 0, 0, 0), 1);
        x.row(2, 3, 2);
        x.row(3, 3, 2);
        x.set(2, 0, Long.MIN_VALUE);
        x.set(2, 1, Long.MAX_VALUE);
        DUE.is("longs", x.copy(2, 3, 0, 0, 2), 1);
        DUE.is("whole", x.element(3, 0), Long.MIN_VALUE);
        DUE.is("whole", x.element(3, 1), Long.MAX_VALUE);
    }

    /** Within one row each element comes as it was ahead, whichever way the places overlap. */
    private static void copyingWithin() {
        for (int from = 0; from < 6; from++) {
            for (int to = 0; to < 6; to++) {
                int n = 6 - Math.max(from, to);
                SoWhen x = new SoWhen();
                count(x, 5, 1, 6);
                DUE.is("copy " + from + " " + to, x.copy(5, 5, from, to, n), 1);
                for (int i = 0; i < 6; i++) {
                    boolean came = i >= to && i < to + n;
                    DUE.is("element " + i, x.element(5, i), 10 + (came ? i - to + from : i));
                }
            }
        }
    }

    private static void showing() {
        SoWhen x = kept(":b0");
        for (int i = 0; i < 16; i++) {
            x.was(0, 1, i % 12, i % 12, i % 6);
        }
        for (int i = 0; i < 16; i++) {
            DUE.is("show", x.show(7, i), 1);
            DUE.is("holds", x.holds(7), i);
            DUE.is("says", x.says(7, 0), i % 6);
        }
        DUE.is("show nothing", x.show(7, -1), 0);
        DUE.is("show nothing again", x.show(7, -1), 0);
        DUE.is("holds", x.holds(7), -1);
        for (int s = 0; s < 8; s++) {
            DUE.is("the same in many", x.show(s, 15), 1);
        }
        for (int s = 0; s < 8; s++) {
            DUE.is("holds", x.holds(s), 15);
        }
        x.by(15, true);
        DUE.is("says though put by", x.says(0, 2), 1);
        DUE.is("show though put by", x.show(1, 15), 1);
        x.row(2, 3, 60);
        x.set(2, 3, 9);
        x.show(2, 4);
        DUE.is("no row any more", x.element(2, 3), 0);
        DUE.is("nor elements", x.set(2, 3, 1), -2);
        x.row(2, 3, 60);
        DUE.is("a new one", x.element(2, 3), 0);
    }

    private static void saying() {
        SoWhen x = kept(":b0");
        Due.thing(x, 3, "0");
        x.seen(0, 11, 0);
        x.span(0, 0, 0, false, 5);
        x.span(0, 0, 11, false, 1);
        x.was(0, 0, 0, 11, 2);
        x.was(1, 7, 7, 9, 3);
        x.span(0, 11, 11, true, 4);
        int[][] due = {{0, -2, -2, -2}, {5, 0, -2, -2}, {1, 11, -2, -2}, {2, -2, 0, -2},
            {3, -2, 7, -2}, {4, 11, -2, 11}};
        for (int piece = 0; piece < due.length; piece++) {
            x.show(0, piece);
            for (int kind = 0; kind < 4; kind++) {
                DUE.is("says " + piece + " " + kind, x.says(0, kind), due[piece][kind]);
            }
        }
    }

    private static void sheets() {
        SoWhen x = kept(":b0");
        Due.thing(x, 3, "0");
        int[][] fine = {{0, 0, 0, 0, 9}, {0, 0, 11, 11, -1}, {1, 0, 0, 11, 9}, {1, 0, 11, 11, -9},
            {2, 0, 0, 11, 0}, {2, 0, 11, 11, 1}, {2, 1, 0, 0, 0}, {2, 1, 0, 0, 7}, {3, 0, 0, 0, 8},
            {3, 0, 11, 11, LEAST}};
        for (int i = 0; i < fine.length; i++) {
            Due.ints(x, 0, fine[i]);
            DUE.is("sheet " + i, x.sheet(0, 0, 5, i % 6), 1);
            int v = fine[i][0] == 2 ? fine[i][4] : 0;
            for (int what = 0; what < 4; what++) {
                DUE.is("its " + what, x.pieceOf(i, what), fine[i][what]);
            }
            DUE.is("its v", x.pieceOf(i, 4), v);
            DUE.is("its mouth", x.pieceOf(i, 5), i % 6);
            DUE.is("not put by", x.pieceOf(i, 6), 0);
        }
        int[][] wrong = {{0, 0, -1, -1, 0}, {0, 0, 12, 12, 0}, {0, 0, 3, 4, 0}, {0, 0, 4, 3, 0},
            {0, 1, 3, 3, 0}, {0, -1, 3, 3, 0}, {1, 0, 0, 0, 0}, {2, 2, 0, 0, 0}, {2, -1, 0, 0, 0},
            {2, 0, 4, 3, 0}, {2, 0, 0, 12, 0}, {2, 0, 0, 0, 2}, {2, 1, 0, 0, 8}, {2, 1, 0, 0, -1},
            {3, 1, 0, 0, 0}, {3, 0, 4, 3, 0}, {4, 0, 0, 0, 0}, {-1, 0, 0, 0, 0},
            {MOST, 0, 0, 0, 0}, {0, MOST, 0, 0, 0}, {3, 0, 0, MOST, 0}, {3, 0, LEAST, 0, 0}};
        for (int i = 0; i < wrong.length; i++) {
            Due.ints(x, 0, wrong[i]);
            DUE.is("sheet of what can't be " + i, x.sheet(0, 0, 5, 0), 0);
        }
        DUE.is("pieces", x.status(2), fine.length);
        sheetsOfSome();
    }

    private static void sheetsOfSome() {
        SoWhen x = kept(":b0");
        x.row(0, 0, 60);
        DUE.is("twelve of sixty", x.sheet(0, 0, 60, 0), 12);
        DUE.is("room for four", x.sheet(0, 5, 55, 1), 4);
        DUE.is("the last", x.pieceOf(15, 5), 1);
        DUE.is("room for none", x.sheet(0, 55, 5, 1), 0);
        SoWhen y = kept(":b0");
        y.row(0, 1, 24);
        y.set(0, 1, 1);
        y.set(0, 9, 2);
        y.set(0, 14, 4);
        DUE.is("until one that can't be one", y.sheet(0, 4, 20, 0), 2);
        y.set(0, 9, 1);
        y.set(0, 14, 1);
        DUE.is("two spans", y.sheet(0, 4, 20, 1), 4);
        DUE.is("until a third", y.sheet(0, 4, 20, 2), 1);
        y.set(0, 9, 3);
        y.set(0, 14, 0);
        DUE.is("four at the end", y.sheet(0, 4, 20, 5), 4);
        DUE.is("pieces", y.status(2), 11);
        DUE.is("the last", y.pieceOf(10, 5), 5);
    }

    private static void act(SoWhen x, int piece, int act, int n, int due, int bodies) {
        DUE.is("act " + piece + " " + act + " " + n, x.act(piece, act, n), due);
        DUE.is("bodies", x.status(4), bodies);
        DUE.is("the last body", x.trace(bodies - 1), 10);
        DUE.is("no more", x.trace(bodies), -1);
    }

    private static void wrapping() {
        for (int n : new int[] {0, 1, -1, MOST, LEAST, MOST - 11, LEAST + 7, 1 << 30, -(1 << 30)}) {
            wrappingFrom(n);
        }
    }

    /** Piece by piece: each sum and product wraps as Java's do. */
    private static void wrappingFrom(int n) {
        SoWhen x = kept(":b0");
        x.seen(0, 0, 0);
        x.seen(0, 11, 0);
        x.span(0, 3, 4, false, 0);
        x.was(0, 1, 5, 9, 0);
        x.span(0, 7, 8, true, 0);
        act(x, 0, 0, n, n, 1);
        act(x, 0, 1, n, n * 2, 2);
        act(x, 0, 2, n, n * 2 ^ n, 4);
        act(x, 1, 0, n, n + 11, 1);
        act(x, 1, 1, n, (n + 11) * 2, 2);
        act(x, 1, 2, n, (n + 11) * 2 ^ n - 1 + 11, 4);
        act(x, 2, 0, n, n + 3, 1);
        act(x, 2, 1, n, (n + 3) * 2 + 2, 3);
        act(x, 2, 2, n, (n + 3) * 2 + 2 ^ n - 2 + 3, 5);
        act(x, 3, 0, n, (n + 5) * 3, 2);
        act(x, 3, 1, n, (n + 5) * 3 * 2, 3);
        act(x, 3, 2, n, ((n + 5) * 3 * 2 ^ (n - 3 + 5) * 3) - 5, 7);
        act(x, 4, 0, n, n + 1 + 7, 2);
        act(x, 4, 1, n, -((n + 1 + 7) * 2 + 4), 5);
        act(x, 4, 2, n, -((n + 1 + 7) * 2 + 4) ^ n - 4 + 1 + 7, 8);
    }

    private static void tracing() {
        SoWhen x = kept(":b0");
        DUE.is("none yet", x.trace(0), -1);
        x.span(0, 7, 8, true, 0);
        x.act(0, 2, 5);
        int[] due = {12, 40, 20, 11, 41, 10, 41, 10};
        for (int i = 0; i < 8; i++) {
            DUE.is("body " + i, x.trace(i), due[i]);
        }
        for (int i : new int[] {8, 9, 19, 20, 21, MOST, -1, LEAST}) {
            DUE.is("no body " + i, x.trace(i), -1);
        }
        x.act(0, 0, 5);
        DUE.is("of the latest alone", x.trace(2), -1);
        DUE.is("of the latest", x.trace(0) * 100 + x.trace(1), 4110);
        x.by(0, true);
        DUE.is("an act of one put by", x.act(0, 0, 5), 13);
        DUE.is("how many", x.status(4), 2);
        x.row(0, 0, -1);
        x.least();
        DUE.is("other calls leave it", x.trace(1), 10);
        x.act(1, 0, 5);
        DUE.is("none of no piece", x.trace(0), -1);
        DUE.is("none ran", x.status(4), 0);
        x.act(0, 1, 5);
        x.act(0, 3, 5);
        DUE.is("none of no act", x.trace(0), -1);
        DUE.is("none ran", x.status(4), 0);
    }

    private static void imageOfAll() {
        SoWhen x = kept(":b0");
        x.was(0, 1, 3, 3, 2);
        x.was(0, 1, 5, 5, 2);
        x.by(1, true);
        x.weigh(2, 0);
        x.price(0, 99);
        DUE.is("image", x.image(), 2);
        for (int i = 2; i < 16; i++) {
            x.was(0, 0, 5, 5, 2);
        }
        x.by(0, true);
        x.by(1, false);
        x.weigh(2, 99);
        x.price(0, 0);
        DUE.is("no course", x.quarrel() == 0 ? 0 : 1, 1);
        DUE.is("restore", x.restore(), 2);
        DUE.is("pieces", x.status(2), 2);
        DUE.is("put by", x.pieceOf(0, 6) * 10 + x.pieceOf(1, 6), 1);
        DUE.is("no third", x.pieceOf(2, 0), -5);
        DUE.is("weight", x.weigh(2, 1), 0);
        DUE.is("price", x.price(0, 1), 99);
        DUE.is("is", x.is(0, 11), 1);
        for (int i = 2; i < 16; i++) {
            DUE.is("room again", x.was(0, 1, 3, 3, 2), i);
        }
        DUE.is("no more", x.was(0, 1, 3, 3, 2), -7);
        DUE.is("image of sixteen", x.image(), 16);
        DUE.is("restore of sixteen", x.restore(), 16);
    }

    /** What was reckoned for more things and happenings must not stay for fewer, and other ones. */
    private static void imageOfTables() {
        SoWhen x = kept("0:e0");
        Due.thing(x, 3, "0");
        x.was(0, 1, 0, 0, 0);
        x.image();
        x.thing(1, 0);
        x.thing(1, 0);
        x.thing(0, 0);
        Due.law(x, "1>2:z1b2", 1, true);
        DUE.is("value", x.value(1, 5), 55);
        DUE.is("courses", x.courses(), 4 * 4096);
        x.restore();
        DUE.is("value", x.value(1, 5), 55);
        DUE.is("courses", x.courses(), 1);
        DUE.is("no such thing", x.is(2, 0), -1);
        DUE.is("could", x.could(3), 64);
        x.thing(0, 0);
        Due.thing(x, 2, "!2");
        Due.law(x, ":e0", 0, false);
        DUE.is("another thing", x.is(2, 5), 2);
        DUE.is("a BY one now", x.courses() > 0 && x.is(3, 5) == 2 ? 1 : 0, 1);
        DUE.is("another law", x.could(3), 66);
        x.restore();
        DUE.is("spans are told anew", x.span(0, 3, 3, false, 0) + x.span(0, 4, 4, false, 0), 3);
        DUE.is("twice a span", x.span(0, 3, 3, false, 0), -7);
        x.restore();
        DUE.is("two spans again", x.span(0, 3, 3, false, 0) + x.span(0, 4, 4, false, 0), 3);
        DUE.is("the second does nothing, but happened", x.least(), 6);
        x.restore();
        DUE.is("none", x.least(), 0);
    }

    private static void imagesInShelves() {
        SoWhen x = kept(":b0");
        for (int i = 0; i < 4; i++) {
            x.was(0, 1, i, i, i);
        }
        x.image();
        for (int i = 4; i < 8; i++) {
            x.was(0, 1, i, i, 5);
        }
        for (int s = 0; s < 8; s++) {
            x.show(s, s);
        }
        DUE.is("restore", x.restore(), 4);
        for (int s = 0; s < 8; s++) {
            DUE.is("shelf " + s, x.holds(s), s < 4 ? s : -1);
        }
        x.was(0, 1, 9, 9, 5);
        DUE.is("nothing comes back", x.holds(4), -1);
        DUE.is("nothing to be told", x.says(4, 0), -3);
        DUE.is("a shelf that held one that is no more", x.show(3, 4), 1);
        x.row(0, 1, 7);
        x.set(0, 6, 5);
        x.restore();
        DUE.is("the fifth", x.holds(3), -1);
        DUE.is("rows stay", x.holds(0) * 10 + x.element(0, 6), 1015);
        DUE.is("pieces of these numbers stay", x.says(1, 0) * 10 + x.says(2, 0), 12);
    }

    private static void imagesInTurn() {
        SoWhen x = kept(":b0");
        DUE.is("image", x.image(), 0);
        x.was(0, 1, 0, 0, 0);
        DUE.is("image", x.image(), 1);
        x.was(0, 1, 0, 0, 0);
        DUE.is("the later image", x.restore(), 1);
        DUE.is("again", x.restore(), 1);
        x.was(0, 0, 0, 0, 0);
        DUE.is("least", x.least(), -1);
        DUE.is("and again", x.restore(), 1);
        DUE.is("least", x.least(), 0);
        DUE.is("image of what was restored", x.image(), 1);
        x.by(0, true);
        x.restore();
        DUE.is("is", x.is(0, 0), 1);
        DUE.is("put by none", x.status(3), 0);
    }

    private static void leftByImages() {
        SoWhen x = kept(":b0");
        x.was(0, 1, 4, 4, 0);
        Due.law(x, ":b", 0, false);
        x.act(0, 2, 3);
        x.image();
        Due.law(x, ":", 0, false);
        x.act(0, 0, 3);
        x.row(0, 0, -1);
        x.restore();
        DUE.is("the FAULT stays", x.fault(), 1);
        DUE.is("THE TRACE stays", x.trace(0) * 10 + x.status(4), 302);
        DUE.is("REFUSALS stay", x.status(14) * 10 + x.status(16), 12);
        x.act(5, 0, 0);
        Due.law(x, ":b0", 0, false);
        x.restore();
        DUE.is("the FAULT stays", x.fault(), -1);
        DUE.is("THE TRACE stays", x.status(4), 0);
    }

    /** As many calls as an object is used for, each refused, and told in the last of them. */
    private static void manyRefusals() {
        SoWhen x = new SoWhen();
        for (int i = 0; i < 511; i++) {
            x.row(0, 4, i);
        }
        DUE.is("refusals", x.status(16), 511);
        SoWhen y = kept();
        for (int i = 0; i < 509; i++) {
            DUE.is("put by none", y.by(0, i % 2 == 0), -1);
        }
        DUE.is("refusals", y.status(11), 509);
        SoWhen z = kept(":b0");
        z.was(0, 1, 5, 5, 0);
        for (int i = 0; i < 500; i += 2) {
            DUE.is("put by and taken in", z.by(0, i % 4 == 0), 1);
            DUE.is("is", z.is(0, 5), i % 4 == 0 ? 2 : 1);
        }
    }
}
