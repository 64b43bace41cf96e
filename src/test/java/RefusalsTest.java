import java.util.function.ToLongFunction;

/**
 * REFUSALS, promise by promise: the number just outside and one far off, which refusal comes first
 * where several fit, and that nothing else is changed. Also the questions that answer NONE.
 */
public final class RefusalsTest {
    private static final Due DUE = new Due("RefusalsTest");
    private static final int FAR = Integer.MAX_VALUE;
    private static final int LOW = Integer.MIN_VALUE;

    /** Shelves of the story: rows of bytes (6), ints (10), longs (3), none; a piece; nothing. */
    private static final int BYTES = 0;
    private static final int INTS = 1;
    private static final int LONGS = 2;
    private static final int EMPTY = 3;
    private static final int PIECE = 4;
    private static final int BARE = 5;
    private static final int[] NO_SHELVES = {-1, 8, 9, FAR, LOW};

    private static final Twins SOME = new Twins(DUE, RefusalsTest::some);
    private static final Twins FULL = new Twins(DUE, RefusalsTest::full);
    private static final Twins QUARREL = new Twins(DUE, RefusalsTest::quarrelling);

    public static void main(String[] args) {
        row();
        set();
        copy();
        show();
        says();
        thing();
        happening();
        numbers();
        seen();
        span();
        was();
        sheet();
        sheetRoom();
        by();
        pieceOf();
        restore();
        shelfQuestions();
        questions();
        questionsWithoutCourse();
        acts();
        DUE.end();
    }

    private static void refused(String call, int number, ToLongFunction<SoWhen> what) {
        SOME.refused(call, number, what);
    }

    /** Four things, two happenings, four pieces (one put by), an image, a fault, a trace. */
    private static void some(SoWhen x) {
        x.thing(0, 0);
        x.thing(1, 0);
        Due.thing(x, 2, "0&1");
        Due.thing(x, 3, "1");
        Due.law(x, ":b1", 2, false);
        Due.law(x, "3>2:z3e1", 3, true);
        x.seen(0, 2, 0);
        x.span(1, 5, 9, false, 1);
        x.was(1, 0, 0, 0, 2);
        x.span(0, 4, 6, true, 3);
        x.by(3, true);
        x.weigh(2, 5);
        x.image();
        x.price(0, 4);
        x.weigh(2, 6);
        x.act(1, 2, 7);
        Due.law(x, ":b", 1, false);
        shelves(x);
    }

    private static void shelves(SoWhen x) {
        Due.write(x, BYTES, "!0:b1e");
        Due.ints(x, INTS, 0, 0, 3, 3, 0, 2, 1, 4, 5, 1);
        x.row(LONGS, 3, 3);
        x.set(LONGS, 2, -5L);
        x.row(EMPTY, 1, 0);
        x.show(PIECE, 0);
    }

    /** As many things, happenings, pieces and spans as may be. */
    private static void full(SoWhen x) {
        for (int i = 0; i < 7; i++) {
            x.thing(i < 2 ? 0 : 1, 0);
        }
        Due.write(x, 7, "2");
        for (int i = 7; i < 10; i++) {
            x.thing(2, 7);
        }
        Due.write(x, 7, ":b2");
        for (int i = 0; i < 6; i++) {
            x.happening(7, i, i == 3);
        }
        x.span(0, 0, 11, false, 0);
        x.span(1, 0, 3, false, 1);
        for (int i = 2; i < 16; i++) {
            x.was(i % 7, 1, 5, 5 + i % 5, i % 6);
        }
        x.image();
        Due.ints(x, INTS, 0, 0, 3, 3, 0);
        x.show(PIECE, 15);
    }

    private static void quarrelling(SoWhen x) {
        some(x);
        x.was(1, 0, 3, 3, 4);
    }

    private static void row() {
        for (int s : NO_SHELVES) {
            refused("row shelf " + s, -1, x -> x.row(s, 0, 1));
        }
        refused("row shelf ahead of below", -1, x -> x.row(8, 0, -1));
        refused("row shelf ahead of sort", -1, x -> x.row(8, 4, 0));
        refused("row shelf ahead of room", -1, x -> x.row(8, 0, 61));
        for (int n : new int[] {-1, -2, LOW}) {
            refused("row below " + n, -4, x -> x.row(BYTES, 0, n));
        }
        refused("row below ahead of sort", -4, x -> x.row(BYTES, 4, -1));
        for (int sort : new int[] {-1, 4, 5, FAR, LOW}) {
            refused("row sort " + sort, -6, x -> x.row(BYTES, sort, 1));
        }
        refused("row sort ahead of room", -6, x -> x.row(BYTES, 4, 61));
        for (int n : new int[] {61, 62, FAR}) {
            refused("row room " + n, -7, x -> x.row(BYTES, 3, n));
            refused("row room over a piece " + n, -7, x -> x.row(PIECE, 3, n));
        }
    }

    private static void set() {
        for (int s : NO_SHELVES) {
            refused("set shelf " + s, -1, x -> x.set(s, -1, 1));
        }
        refused("set a piece", -2, x -> x.set(PIECE, 0, 1));
        refused("set a piece ahead of beyond", -2, x -> x.set(PIECE, -1, 1));
        refused("set nothing", -3, x -> x.set(BARE, 0, 1));
        refused("set nothing ahead of beyond", -3, x -> x.set(BARE, 60, 1));
        for (int i : new int[] {-1, 6, 7, 60, FAR, LOW}) {
            refused("set beyond " + i, -5, x -> x.set(BYTES, i, 1));
        }
        refused("set in an empty row", -5, x -> x.set(EMPTY, 0, 1));
    }

    private static void copy() {
        for (int s : NO_SHELVES) {
            refused("copy from " + s, -1, x -> x.copy(s, BYTES, 0, 0, 1));
            refused("copy to " + s, -1, x -> x.copy(BYTES, s, 0, 0, 1));
            refused("copy shelf ahead of piece " + s, -1, x -> x.copy(PIECE, s, -1, -1, -1));
            refused("copy shelf ahead of nothing " + s, -1, x -> x.copy(s, BARE, -1, -1, -1));
        }
        refused("copy from a piece", -2, x -> x.copy(PIECE, BYTES, 0, 0, 1));
        refused("copy to a piece", -2, x -> x.copy(BYTES, PIECE, 0, 0, 1));
        refused("copy a piece onto itself", -2, x -> x.copy(PIECE, PIECE, 0, 0, 0));
        refused("copy a piece ahead of nothing", -2, x -> x.copy(PIECE, BARE, 0, 0, 1));
        refused("copy nothing behind a piece", -2, x -> x.copy(BARE, PIECE, 0, 0, 1));
        refused("copy two sorts", -2, x -> x.copy(BYTES, INTS, 0, 0, 1));
        refused("copy two sorts, none", -2, x -> x.copy(EMPTY, INTS, 0, 0, 0));
        refused("copy two sorts ahead of below", -2, x -> x.copy(LONGS, INTS, -1, 99, -1));
        refused("copy from nothing", -3, x -> x.copy(BARE, BYTES, 0, 0, 0));
        refused("copy to nothing", -3, x -> x.copy(BYTES, BARE, 0, 0, 0));
        refused("copy nothing to nothing", -3, x -> x.copy(BARE, BARE, 0, 0, 0));
        refused("copy nothing ahead of below", -3, x -> x.copy(BARE, BYTES, -1, -1, -1));
        for (int n : new int[] {-1, -2, LOW}) {
            refused("copy below " + n, -4, x -> x.copy(INTS, INTS, 0, 0, n));
            refused("copy below ahead of beyond " + n, -4, x -> x.copy(INTS, INTS, -1, 11, n));
        }
        for (int i : new int[] {-1, -2, LOW, 10, 11, FAR}) {
            refused("copy from element " + i, -5, x -> x.copy(INTS, INTS, i, 0, 1));
            refused("copy to element " + i, -5, x -> x.copy(INTS, INTS, 0, i, 1));
        }
        for (int i : new int[] {-1, 11, LOW, FAR}) {
            refused("copy none from element " + i, -5, x -> x.copy(INTS, INTS, i, 0, 0));
            refused("copy none to element " + i, -5, x -> x.copy(INTS, INTS, 0, i, 0));
        }
        for (int n : new int[] {8, 11, 60, FAR}) {
            refused("copy from 3 on " + n, -5, x -> x.copy(INTS, INTS, 3, 0, n));
            refused("copy to 3 on " + n, -5, x -> x.copy(INTS, INTS, 0, 3, n));
        }
        refused("copy from an empty row", -5, x -> x.copy(EMPTY, EMPTY, 0, 0, 1));
    }

    private static void show() {
        for (int s : NO_SHELVES) {
            refused("show shelf " + s, -1, x -> x.show(s, 0));
            refused("show nothing, shelf " + s, -1, x -> x.show(s, -1));
            refused("show neither " + s, -1, x -> x.show(s, 4));
        }
        for (int piece : new int[] {-2, 4, 5, 16, FAR, LOW}) {
            refused("show piece " + piece, -1, x -> x.show(PIECE, piece));
            refused("show piece over a row " + piece, -1, x -> x.show(BYTES, piece));
        }
        FULL.refused("show piece of sixteen", -1, x -> x.show(0, 16));
    }

    private static void says() {
        for (int s : NO_SHELVES) {
            refused("says shelf " + s, -1, x -> x.says(s, 0));
        }
        for (int kind : new int[] {-1, 4, 5, FAR, LOW}) {
            refused("says kind " + kind, -1, x -> x.says(PIECE, kind));
            refused("says kind ahead of a row " + kind, -1, x -> x.says(BYTES, kind));
            refused("says kind ahead of nothing " + kind, -1, x -> x.says(BARE, kind));
        }
        for (int kind = 0; kind < 4; kind++) {
            int of = kind;
            refused("says a row " + kind, -2, x -> x.says(BYTES, of));
            refused("says an empty row " + kind, -2, x -> x.says(EMPTY, of));
            refused("says nothing " + kind, -3, x -> x.says(BARE, of));
        }
        for (int kind = 1; kind < 4; kind++) {
            int of = kind;
            refused("says of one SEEN " + kind, -2, x -> x.says(PIECE, of));
        }
    }

    private static void thing() {
        for (int kind : new int[] {-1, 4, 5, FAR, LOW}) {
            refused("thing kind " + kind, -1, x -> x.thing(kind, BYTES));
            refused("thing kind ahead of a piece " + kind, -1, x -> x.thing(kind, PIECE));
            FULL.refused("thing kind ahead of room " + kind, -1, x -> x.thing(kind, 7));
        }
        for (int kind = 2; kind < 4; kind++) {
            int of = kind;
            for (int s : NO_SHELVES) {
                refused("thing shelf " + kind + " " + s, -1, x -> x.thing(of, s));
                FULL.refused("thing shelf ahead of room " + kind, -1, x -> x.thing(of, s));
            }
            refused("thing by a piece " + kind, -2, x -> x.thing(of, PIECE));
            FULL.refused("thing by a piece ahead of room " + kind, -2, x -> x.thing(of, PIECE));
            refused("thing by nothing " + kind, -3, x -> x.thing(of, BARE));
            FULL.refused("thing by nothing ahead of room " + kind, -3, x -> x.thing(of, BARE));
            SOME.faulty("thing of no letters " + kind, -6, 0, x -> x.thing(of, EMPTY));
            SOME.faulty("thing by a law " + kind, -6, 2, x -> x.thing(of, BYTES));
            FULL.faulty("thing, a fault ahead of room " + kind, -6, 0, x -> x.thing(of, INTS));
            FULL.faulty("thing by a law ahead of room " + kind, -6, 0, x -> x.thing(of, 7));
        }
        for (int kind = 0; kind < 2; kind++) {
            int of = kind;
            FULL.refused("thing room " + kind, -7, x -> x.thing(of, 7));
            FULL.refused("thing room, s does not matter " + kind, -7, x -> x.thing(of, -1));
        }
    }

    private static void happening() {
        for (int s : NO_SHELVES) {
            refused("happening shelf " + s, -1, x -> x.happening(s, 1, true));
            refused("happening shelf ahead of price " + s, -1, x -> x.happening(s, 100, true));
            FULL.refused("happening shelf ahead of room " + s, -1, x -> x.happening(s, 1, true));
        }
        refused("happening by a piece", -2, x -> x.happening(PIECE, 1, true));
        refused("happening by a piece ahead of price", -2, x -> x.happening(PIECE, -1, true));
        refused("happening by nothing", -3, x -> x.happening(BARE, 1, true));
        refused("happening by nothing ahead of price", -3, x -> x.happening(BARE, 100, true));
        for (int price : new int[] {-1, 100, 101, FAR, LOW}) {
            refused("happening price, not read " + price, -6, x -> x.happening(BYTES, price, true));
            FULL.refused("happening price ahead of room " + price, -6,
                    x -> x.happening(7, price, true));
        }
        SOME.faulty("happening by a half law", -6, 6, x -> x.happening(BYTES, 0, true));
        SOME.faulty("happening of no letters", -6, 0, x -> x.happening(EMPTY, 99, false));
        SOME.faulty("happening of longs", -6, 0, x -> x.happening(LONGS, 99, false));
        FULL.faulty("happening, a fault ahead of room", -6, 0, x -> x.happening(INTS, 0, true));
        FULL.refused("happening by nothing ahead of room", -3, x -> x.happening(BARE, 0, true));
        FULL.faulty("happening room, read", -7, -1, x -> x.happening(7, 0, true));
    }

    private static void numbers() {
        for (int happening : new int[] {-1, 2, 3, 6, FAR, LOW}) {
            refused("price of " + happening, -1, x -> x.price(happening, 1));
            refused("price of none ahead of price " + happening, -1, x -> x.price(happening, 100));
        }
        FULL.refused("price of the seventh", -1, x -> x.price(6, 1));
        for (int mouth : new int[] {-1, 6, 7, FAR, LOW}) {
            refused("weigh mouth " + mouth, -1, x -> x.weigh(mouth, 1));
            refused("weigh mouth ahead of weight " + mouth, -1, x -> x.weigh(mouth, -1));
        }
        for (int v : new int[] {-1, 100, 101, FAR, LOW}) {
            refused("price " + v, -6, x -> x.price(0, v));
            refused("weigh " + v, -6, x -> x.weigh(5, v));
        }
    }

    private static void seen() {
        for (int happening : new int[] {-1, 2, 3, 6, FAR, LOW}) {
            refused("seen happening " + happening, -1, x -> x.seen(happening, 0, 0));
            refused("seen happening ahead of hour " + happening, -1, x -> x.seen(happening, 12, 0));
        }
        for (int mouth : new int[] {-1, 6, 7, FAR, LOW}) {
            refused("seen mouth " + mouth, -1, x -> x.seen(0, 0, mouth));
            refused("seen mouth ahead of hour " + mouth, -1, x -> x.seen(0, -1, mouth));
            FULL.refused("seen mouth ahead of room " + mouth, -1, x -> x.seen(0, 0, mouth));
        }
        for (int hour : new int[] {-1, 12, 13, FAR, LOW}) {
            refused("seen hour " + hour, -6, x -> x.seen(0, hour, 0));
            FULL.refused("seen hour ahead of room " + hour, -6, x -> x.seen(0, hour, 0));
        }
        FULL.refused("seen happening ahead of room", -1, x -> x.seen(6, 0, 0));
        FULL.refused("seen room", -7, x -> x.seen(0, 0, 0));
    }

    private static final int[][] NO_HOURS = {{-1, 0}, {-1, -1}, {0, -1}, {0, 12}, {12, 12}, {1, 0},
        {11, 10}, {12, 11}, {LOW, FAR}, {FAR, LOW}, {0, FAR}, {LOW, 11}, {11, 0}};

    private static void span() {
        for (int i = 0; i < 2; i++) {
            boolean never = i == 1;
            for (int happening : new int[] {-1, 2, 3, 6, FAR, LOW}) {
                refused("span happening " + happening, -1, x -> x.span(happening, 0, 1, never, 0));
                refused("span happening ahead of hours", -1,
                        x -> x.span(happening, 1, 0, never, 0));
            }
            for (int mouth : new int[] {-1, 6, 7, FAR, LOW}) {
                refused("span mouth " + mouth, -1, x -> x.span(0, 0, 1, never, mouth));
                refused("span mouth ahead of hours", -1, x -> x.span(0, 1, 0, never, mouth));
                FULL.refused("span mouth ahead of room", -1, x -> x.span(0, 0, 1, never, mouth));
            }
            for (int[] h : NO_HOURS) {
                refused("span hours " + h[0] + " " + h[1], -6,
                        x -> x.span(0, h[0], h[1], never, 0));
                FULL.refused("span hours ahead of room " + h[0] + " " + h[1], -6,
                        x -> x.span(0, h[0], h[1], never, 0));
            }
            FULL.refused("span room " + never, -7, x -> x.span(0, 0, 1, never, 0));
        }
        Twins two = new Twins(DUE, RefusalsTest::twoSpans);
        two.refused("a third span", -7, x -> x.span(0, 0, 1, false, 0));
        two.refused("a third span, hours first", -6, x -> x.span(0, 1, 0, false, 0));
    }

    private static void twoSpans(SoWhen x) {
        some(x);
        x.span(0, 3, 3, false, 4);
    }

    private static void was() {
        for (int thing : new int[] {-1, 4, 5, 10, FAR, LOW}) {
            refused("was thing " + thing, -1, x -> x.was(thing, 0, 0, 1, 0));
            refused("was thing ahead of hours " + thing, -1, x -> x.was(thing, 0, 1, 0, 0));
            refused("was thing ahead of v " + thing, -1, x -> x.was(thing, 8, 0, 1, 0));
        }
        for (int mouth : new int[] {-1, 6, 7, FAR, LOW}) {
            refused("was mouth " + mouth, -1, x -> x.was(0, 0, 0, 1, mouth));
            refused("was mouth ahead of v " + mouth, -1, x -> x.was(0, 2, 0, 1, mouth));
            FULL.refused("was mouth ahead of room " + mouth, -1, x -> x.was(0, 0, 0, 1, mouth));
        }
        for (int[] h : NO_HOURS) {
            refused("was hours " + h[0] + " " + h[1], -6, x -> x.was(0, 0, h[0], h[1], 0));
        }
        for (int thing = 0; thing < 3; thing++) {
            int of = thing;
            for (int v : new int[] {-1, 2, 7, FAR, LOW}) {
                refused("was v of " + thing + " " + v, -6, x -> x.was(of, v, 0, 1, 0));
            }
        }
        for (int v : new int[] {-1, 8, 9, FAR, LOW}) {
            refused("was v of a running one " + v, -6, x -> x.was(3, v, 0, 0, 0));
        }
        FULL.refused("was thing ahead of room", -1, x -> x.was(10, 0, 0, 1, 0));
        FULL.refused("was hours ahead of room", -6, x -> x.was(0, 0, 1, 0, 0));
        FULL.refused("was v ahead of room", -6, x -> x.was(0, 2, 0, 1, 0));
        FULL.refused("was room", -7, x -> x.was(0, 0, 0, 1, 0));
    }

    private static void sheet() {
        for (int s : NO_SHELVES) {
            refused("sheet shelf " + s, -1, x -> x.sheet(s, 0, 5, 0));
            refused("sheet shelf ahead of below " + s, -1, x -> x.sheet(s, -1, -1, 0));
        }
        for (int mouth : new int[] {-1, 6, 7, FAR, LOW}) {
            refused("sheet mouth " + mouth, -1, x -> x.sheet(INTS, 0, 5, mouth));
            refused("sheet mouth ahead of a piece " + mouth, -1, x -> x.sheet(PIECE, 0, 5, mouth));
            refused("sheet mouth ahead of nothing " + mouth, -1, x -> x.sheet(BARE, 0, 5, mouth));
            refused("sheet mouth, none " + mouth, -1, x -> x.sheet(INTS, 0, 0, mouth));
        }
        refused("sheet of a piece", -2, x -> x.sheet(PIECE, 0, 0, 0));
        refused("sheet of a piece ahead of below", -2, x -> x.sheet(PIECE, -1, -1, 0));
        refused("sheet of nothing", -3, x -> x.sheet(BARE, 0, 0, 0));
        refused("sheet of nothing ahead of below", -3, x -> x.sheet(BARE, -1, -1, 0));
        for (int n : new int[] {-1, -5, LOW}) {
            refused("sheet below " + n, -4, x -> x.sheet(INTS, 0, n, 0));
            refused("sheet below ahead of beyond " + n, -4, x -> x.sheet(INTS, -1, n, 0));
        }
        for (int i : new int[] {-1, 6, 10, 11, FAR, LOW}) {
            refused("sheet from " + i, -5, x -> x.sheet(INTS, i, 5, 0));
            refused("sheet from, ahead of five " + i, -5, x -> x.sheet(INTS, i, 9, 0));
        }
        for (int n : new int[] {11, 15, 60, FAR, FAR - 2}) {
            refused("sheet of " + n, -5, x -> x.sheet(INTS, 0, n, 0));
        }
        refused("sheet of an empty row", -5, x -> x.sheet(EMPTY, 0, 5, 0));
        for (int n : new int[] {1, 4, 6, 9}) {
            refused("sheet no multiple " + n, -6, x -> x.sheet(INTS, 0, n, 0));
            FULL.refused("sheet no multiple, no room " + n, n > 5 ? -5 : -6,
                    x -> x.sheet(INTS, 0, n, 0));
        }
    }

    /** What there is no room for, or that can't be one, is no refusal in a sheet. */
    private static void sheetRoom() {
        SOME.unmoved("sheet of none", 0, x -> x.sheet(INTS, 0, 0, 0));
        SOME.unmoved("sheet of none at the end", 0, x -> x.sheet(INTS, 10, 0, 5));
        SOME.unmoved("sheet of none of an empty row", 0, x -> x.sheet(EMPTY, 0, 0, 5));
        SOME.unmoved("sheet of what can't be one", 0, x -> x.sheet(INTS, 3, 5, 0));
        FULL.unmoved("sheet without room", 0, x -> x.sheet(INTS, 0, 5, 0));
    }

    private static void by() {
        for (int piece : new int[] {-1, 4, 5, 16, 31, 32, 35, FAR, LOW}) {
            refused("by " + piece, -1, x -> x.by(piece, true));
            refused("by " + piece, -1, x -> x.by(piece, false));
        }
        SOME.unmoved("by as it was", 0, x -> x.by(3, true));
        SOME.unmoved("taken in as it was", 0, x -> x.by(0, false));
        FULL.refused("by the seventeenth", -1, x -> x.by(16, true));
    }

    private static void pieceOf() {
        for (int piece : new int[] {-1, 4, 5, 16, FAR, LOW}) {
            refused("pieceOf " + piece, -5, x -> x.pieceOf(piece, 0));
            refused("pieceOf neither " + piece, -5, x -> x.pieceOf(piece, 7));
        }
        for (int what : new int[] {-1, 7, 8, FAR, LOW}) {
            refused("pieceOf what " + what, -5, x -> x.pieceOf(0, what));
        }
        FULL.refused("pieceOf the seventeenth", -5, x -> x.pieceOf(16, 6));
    }

    private static void restore() {
        Twins fresh = new Twins(DUE, x -> { });
        fresh.refused("restore without an image", -6, SoWhen::restore);
        Twins told = new Twins(DUE, RefusalsTest::unpictured);
        told.refused("restore without an image, told", -6, SoWhen::restore);
    }

    private static void unpictured(SoWhen x) {
        x.thing(1, 0);
        Due.law(x, ":b0", 4, false);
        x.was(0, 1, 4, 4, 0);
        x.show(4, 0);
    }

    private static void shelfQuestions() {
        for (int s : NO_SHELVES) {
            SOME.unmoved("holds " + s, -1, x -> x.holds(s));
            SOME.unmoved("element of shelf " + s, 0, x -> x.element(s, 0));
        }
        for (int i : new int[] {-1, 3, 4, 60, FAR, LOW}) {
            SOME.unmoved("element " + i, 0, x -> x.element(LONGS, i));
        }
        SOME.unmoved("element, the last", -5, x -> x.element(LONGS, 2));
        SOME.unmoved("element of an empty row", 0, x -> x.element(EMPTY, 0));
        SOME.unmoved("element of a piece", 0, x -> x.element(PIECE, 0));
        SOME.unmoved("element of nothing", 0, x -> x.element(BARE, 0));
        for (int what : new int[] {-1, 5, 10, 18, 19, FAR, LOW}) {
            SOME.unmoved("status " + what, -1, x -> x.status(what));
        }
        for (int i : new int[] {-1, 5, 19, 20, FAR, LOW}) {
            SOME.unmoved("trace " + i, -1, x -> x.trace(i));
        }
        SOME.unmoved("trace, the last", 10, x -> x.trace(4));
    }

    private static void questions() {
        for (int i : new int[] {-1, 12, 13, FAR, LOW}) {
            SOME.unmoved("is, hour " + i, -1, x -> x.is(1, i));
            SOME.unmoved("value, hour " + i, -1, x -> x.value(3, i));
            SOME.unmoved("why, hour " + i, -1, x -> x.why(1, i));
            SOME.unmoved("could, hour " + i, -1, x -> x.could(i));
            SOME.unmoved("since, hour " + i, -1, x -> x.since(1, i));
            SOME.unmoved("seemed, hour " + i, -1, x -> x.seemed(0, 11, 1, i));
            SOME.unmoved("seemed by " + i, -1, x -> x.seemed(0, i, 1, 5));
        }
        for (int thing : new int[] {-1, 4, 5, 10, FAR, LOW}) {
            SOME.unmoved("is of " + thing, -1, x -> x.is(thing, 3));
            SOME.unmoved("value of " + thing, -1, x -> x.value(thing, 3));
            SOME.unmoved("why of " + thing, -1, x -> x.why(thing, 3));
            SOME.unmoved("ever of " + thing, -1, x -> x.ever(thing, 0, 3));
            SOME.unmoved("howLong of " + thing, -1, x -> x.howLong(thing, 0, 3));
            SOME.unmoved("since of " + thing, -1, x -> x.since(thing, 3));
            SOME.unmoved("plan of " + thing, -1, x -> x.plan(thing, 0, 3));
            SOME.unmoved("seemed of " + thing, -1, x -> x.seemed(0, 11, thing, 3));
        }
        for (int of = 0; of < 3; of++) {
            int thing = of;
            SOME.unmoved("value of no running one " + of, -1, x -> x.value(thing, 3));
        }
        for (int happening : new int[] {-1, 2, 3, 6, FAR, LOW}) {
            SOME.unmoved("must of " + happening, -1, x -> x.must(happening, 0, 11));
        }
        for (int mouth : new int[] {-1, 6, 7, FAR, LOW}) {
            SOME.unmoved("seemed to " + mouth, -1, x -> x.seemed(mouth, 11, 1, 3));
        }
        for (int[] h : NO_HOURS) {
            SOME.unmoved("must in " + h[0] + " " + h[1], -1, x -> x.must(0, h[0], h[1]));
            SOME.unmoved("ever in " + h[0] + " " + h[1], -1, x -> x.ever(1, h[0], h[1]));
            SOME.unmoved("howLong in " + h[0] + " " + h[1], -1, x -> x.howLong(1, h[0], h[1]));
            SOME.unmoved("plan in " + h[0] + " " + h[1], -1, x -> x.plan(1, h[0], h[1]));
        }
        SOME.unmoved("plan in one hour", -1, x -> x.plan(1, 4, 4));
    }

    /** Questions change nothing either where there is an answer, or no course. */
    private static void questionsWithoutCourse() {
        QUARREL.unmoved("least", -1, SoWhen::least);
        QUARREL.unmoved("courses", 0, SoWhen::courses);
        QUARREL.unmoved("is", -1, x -> x.is(0, 0));
        QUARREL.unmoved("value", -1, x -> x.value(3, 0));
        QUARREL.unmoved("why", -1, x -> x.why(1, 0));
        QUARREL.unmoved("quarrel", 0b10001, SoWhen::quarrel);
        QUARREL.unmoved("out", 0, SoWhen::out);
        QUARREL.unmoved("must", -1, x -> x.must(0, 2, 2));
        QUARREL.unmoved("could", -1, x -> x.could(2));
        QUARREL.unmoved("ever", -1, x -> x.ever(1, 0, 11));
        QUARREL.unmoved("howLong", -1, x -> x.howLong(1, 0, 11));
        QUARREL.unmoved("since", -1, x -> x.since(1, 3));
        QUARREL.unmoved("plan", -1, x -> x.plan(1, 0, 5));
        QUARREL.unmoved("seemed", 0, x -> x.seemed(4, 3, 1, 3));
        SOME.unmoved("why", 0b100, x -> x.why(1, 0));
        SOME.unmoved("quarrel", 0, SoWhen::quarrel);
        SOME.unmoved("out", -1, SoWhen::out);
        SOME.unmoved("plan", 0, x -> x.plan(1, 0, 2));
        SOME.unmoved("seemed", 1, x -> x.seemed(0, 2, 1, 3));
        SOME.unmoved("says", 0, x -> x.says(PIECE, 0));
    }

    private static void acts() {
        for (int piece : new int[] {-1, 4, 5, 16, FAR, LOW}) {
            SOME.unmoved("act of " + piece, 0, Twins.But.TRACE, x -> x.act(piece, 0, 1));
            SOME.unmoved("no trace of " + piece, 0, Twins.But.TRACE, x -> untraced(x, piece, 0));
        }
        for (int act : new int[] {-1, 3, 4, FAR, LOW}) {
            SOME.unmoved("act " + act, 0, Twins.But.TRACE, x -> x.act(1, act, 1));
            SOME.unmoved("no trace of act " + act, 0, Twins.But.TRACE, x -> untraced(x, 1, act));
        }
        SOME.unmoved("an act", 9, Twins.But.TRACE, x -> x.act(0, 0, 7));
    }

    /** 0 if an act left no trace. */
    private static long untraced(SoWhen x, int piece, int act) {
        x.act(piece, act, 1);
        return x.status(4) + (x.trace(0) + 1L);
    }
}
