/** Promises 9 to 19, 34 and 35: things, happenings and their texts, pieces, acts. */
public final class TellingTest {
    private static final Due DUE = new Due("TellingTest");

    public static void main(String[] args) {
        things();
        conditionFaults();
        lawFaults();
        longTexts();
        happenings();
        numbers();
        pieces();
        spans();
        wases();
        sheets();
        putting();
        acts();
        DUE.end();
    }

    private static void things() {
        SoWhen x = new SoWhen();
        DUE.is("thing kind", x.thing(-1, 0), -1);
        DUE.is("thing kind", x.thing(4, 0), -1);
        DUE.is("thing shelf", x.thing(2, 8), -1);
        DUE.is("thing shelf", x.thing(3, -1), -1);
        DUE.is("thing nothing", x.thing(3, 0), -3);
        for (int i = 0; i < 5; i++) {
            DUE.is("kept", x.thing(1, 99), i);
        }
        DUE.is("kept room", x.thing(1, 0), -7);
        x.was(0, 1, 0, 0, 0);
        x.show(1, 0);
        DUE.is("thing by a piece", x.thing(2, 1), -2);
        DUE.is("running", Due.thing(x, 3, "0"), 5);
        DUE.is("running room", Due.thing(x, 3, "0"), -7);
        DUE.is("a fault ahead of room", Due.thing(x, 3, "9"), -6);
        for (int i = 6; i < 9; i++) {
            DUE.is("by", Due.thing(x, 2, "" + (i - 1)), i);
        }
        DUE.is("by room", Due.thing(x, 2, "0"), -7);
        DUE.is("free", x.thing(0, 0), 9);
        DUE.is("ten things", x.thing(0, 0), -7);
        DUE.is("things", x.status(0), 10);
        DUE.is("refusals -7", x.status(17), 4);

        SoWhen y = new SoWhen();
        y.thing(0, 0);
        y.thing(0, 0);
        DUE.is("free room", y.thing(0, 0), -7);
        DUE.is("kept after", y.thing(1, 0), 2);
    }

    private static void conditionFaults() {
        SoWhen x = new SoWhen();
        DUE.is("no things", Due.thing(x, 2, "0"), -6);
        DUE.is("fault", x.fault(), 0);
        DUE.is("no things", Due.thing(x, 2, "!0"), -6);
        DUE.is("fault", x.fault(), 1);
        x.thing(1, 0);
        Due.thing(x, 3, "0");
        String[] texts = {"", "2", "!", "!!0", "0&", "0|", "0&&1", "0!1", "0>1", "1>", "1>8",
            "1>7>1", "1>x", "00", " 0", "0 ", "1>3&0>3", "0:", ":b0", "&0", "0|!", "a", "1>3!0"};
        int[] faults = {0, 0, 1, 1, 2, 2, 2, 1, 1, 2, 2, 3, 2, 1, 0, 1, 5, 1, 0, 0, 3, 0, 3};
        for (int i = 0; i < texts.length; i++) {
            DUE.is("condition " + texts[i], Due.thing(x, 2, texts[i]), -6);
            DUE.is("fault of " + texts[i], x.fault(), faults[i]);
        }
        DUE.is("not read", x.thing(2, 6), -3);
        DUE.is("the fault stays", x.fault(), 3);
        DUE.is("of others s does not matter", x.thing(0, 7), 2);
        DUE.is("the fault stays", x.fault(), 3);
        String[] fine = {"0", "!1>7&0|!2&!0&1>0", "1>0|1|!1"};
        for (int i = 0; i < fine.length; i++) {
            DUE.is("condition " + fine[i], Due.thing(x, 2, fine[i]), 3 + i);
            DUE.is("fault of " + fine[i], x.fault(), -1);
        }
        DUE.is("a letter beyond bytes", wide(x, 0x1_0000_0030L), -7);
        DUE.is("its fault", x.fault(), -1);
        DUE.is("an int letter", wide(x, 0x0000_0130L), -6);
        DUE.is("its fault", x.fault(), 0);
    }

    /** A condition of one letter in a row of longs: of these the lowest 32 bits count. */
    private static int wide(SoWhen x, long letter) {
        x.row(6, 3, 1);
        x.set(6, 0, letter);
        return x.thing(2, 6);
    }

    private static void lawFaults() {
        SoWhen x = new SoWhen();
        x.thing(1, 0);
        x.thing(0, 0);
        Due.thing(x, 3, "0");
        Due.thing(x, 2, "0");
        String[] texts = {"", ":", "0", "0&", "!", "!:b0", "0:", ":b", ":b1", ":b2", ":b3", ":b4",
            ":e2", ":z0", ":z", ":b0b", ":b0&", ":b0:", ":x0", "b0", "0>1:b0", "2>8:b0", "2>3",
            "::b0", ":!0", "0|:b0", ":b0e1", "4:b0", ":b0 "};
        int[] faults = {0, 1, 1, 2, 1, 1, 2, 2, 2, 2, 2, 2, 2, 2, 2, 4, 3, 3, 1, 0, 1, 2, 3,
            1, 1, 2, 4, 0, 3};
        for (int i = 0; i < texts.length; i++) {
            DUE.is("law " + texts[i], Due.law(x, texts[i], 1, false), -6);
            DUE.is("fault of " + texts[i], x.fault(), faults[i]);
        }
        String[] fine = {":b0", "0:e0", "!2>3&1|3:z2b0e0z2"};
        for (int i = 0; i < fine.length; i++) {
            DUE.is("law " + fine[i], Due.law(x, fine[i], 1, false), i);
            DUE.is("fault of " + fine[i], x.fault(), -1);
        }
    }

    private static void longTexts() {
        SoWhen x = new SoWhen();
        x.thing(1, 0);
        StringBuilder text = new StringBuilder("0");
        for (int i = 1; i < 30; i++) {
            text.append("|0");
        }
        DUE.is("59 letters", Due.thing(x, 2, text.toString()), 1);
        DUE.is("60 letters", Due.thing(x, 2, text.toString() + "|"), -6);
        DUE.is("fault", x.fault(), 60);
        StringBuilder law = new StringBuilder("!1:");
        for (int i = 0; i < 28; i++) {
            law.append("b0");
        }
        DUE.is("59 letters", Due.law(x, law.toString(), 1, true), 0);
        x.was(0, 0, 0, 0, 0);
        x.was(0, 1, 3, 3, 0);
        DUE.is("least", x.least(), 1);
        x.was(1, 1, 0, 0, 0);
        DUE.is("the thirty are one", x.least(), -1);
    }

    private static void happenings() {
        SoWhen x = new SoWhen();
        x.thing(1, 0);
        DUE.is("happening shelf", x.happening(8, 100, false), -1);
        DUE.is("happening nothing", x.happening(0, 100, false), -3);
        x.was(0, 1, 0, 0, 0);
        x.show(1, 0);
        DUE.is("happening piece", x.happening(1, 100, false), -2);
        Due.law(x, ":b", 1, false);
        DUE.is("happening price", Due.law(x, ":b0", 100, false), -6);
        DUE.is("happening price", Due.law(x, ":b0", -1, false), -6);
        DUE.is("not read", x.fault(), 2);
        for (int i = 0; i < 6; i++) {
            DUE.is("happening", Due.law(x, ":b0", i == 0 ? 99 : 0, true), i);
        }
        DUE.is("happening room", Due.law(x, ":b0", 0, true), -7);
        DUE.is("a fault ahead of room", Due.law(x, ":b1", 0, true), -6);
        DUE.is("fault", x.fault(), 2);
        DUE.is("happenings", x.status(1), 6);
    }

    private static void numbers() {
        SoWhen x = new SoWhen();
        DUE.is("price none", x.price(0, 100), -1);
        x.thing(1, 0);
        Due.law(x, ":b0", 5, false);
        DUE.is("price", x.price(0, 99), 5);
        DUE.is("price", x.price(0, 0), 99);
        DUE.is("price", x.price(0, 100), -6);
        DUE.is("price", x.price(0, -1), -6);
        DUE.is("price", x.price(1, 1), -1);
        DUE.is("price", x.price(-1, 1), -1);
        DUE.is("price stayed", x.price(0, 3), 0);
        DUE.is("weigh", x.weigh(5, 99), 1);
        DUE.is("weigh", x.weigh(5, 0), 99);
        DUE.is("weigh", x.weigh(5, 100), -6);
        DUE.is("weigh", x.weigh(5, -1), -6);
        DUE.is("weigh", x.weigh(6, 100), -1);
        DUE.is("weigh", x.weigh(-1, 0), -1);
        DUE.is("weigh stayed", x.weigh(5, 1), 0);
    }

    private static void due(SoWhen x, int piece, int... fields) {
        for (int what = 0; what < 7; what++) {
            DUE.is("pieceOf " + piece + " " + what, x.pieceOf(piece, what), fields[what]);
        }
    }

    private static void pieces() {
        SoWhen x = new SoWhen();
        x.thing(1, 0);
        Due.law(x, ":b0", 5, false);
        Due.law(x, ":e0", 5, false);
        DUE.is("seen", x.seen(1, 11, 5), 0);
        due(x, 0, 0, 1, 11, 11, 0, 5, 0);
        DUE.is("seen happening", x.seen(2, 12, 0), -1);
        DUE.is("seen happening", x.seen(-1, 0, 0), -1);
        DUE.is("seen mouth", x.seen(0, 12, 6), -1);
        DUE.is("seen mouth", x.seen(0, 0, -1), -1);
        DUE.is("seen hour", x.seen(0, 12, 0), -6);
        DUE.is("seen hour", x.seen(0, -1, 0), -6);
        DUE.is("pieceOf none", x.pieceOf(1, 0), -5);
        DUE.is("pieceOf none", x.pieceOf(-1, 0), -5);
        DUE.is("pieceOf what", x.pieceOf(0, 7), -5);
        DUE.is("pieceOf what", x.pieceOf(0, -1), -5);
        DUE.is("refusals -5", x.status(15), 4);
        for (int i = 1; i < 16; i++) {
            DUE.is("seen", x.seen(0, i % 12, 0), i);
        }
        DUE.is("seen room", x.seen(0, 0, 0), -7);
        DUE.is("seen hour ahead of room", x.seen(0, 12, 0), -6);
        DUE.is("was room", x.was(0, 0, 0, 0, 0), -7);
        DUE.is("never room", x.span(0, 0, 0, true, 0), -7);
        DUE.is("pieces", x.status(2), 16);
    }

    private static void spans() {
        SoWhen x = new SoWhen();
        x.thing(1, 0);
        Due.law(x, ":b0", 5, false);
        DUE.is("span", x.span(0, 0, 11, false, 2), 0);
        due(x, 0, 1, 0, 0, 11, 0, 2, 0);
        DUE.is("never", x.span(0, 4, 4, true, 1), 1);
        due(x, 1, 3, 0, 4, 4, 0, 1, 0);
        DUE.is("span happening", x.span(1, 5, 4, true, 0), -1);
        DUE.is("span mouth", x.span(0, 5, 4, true, 6), -1);
        DUE.is("span hours", x.span(0, 5, 4, true, 0), -6);
        DUE.is("span hours", x.span(0, -1, 4, true, 0), -6);
        DUE.is("span hours", x.span(0, 5, 12, true, 0), -6);
        DUE.is("span", x.span(0, 1, 2, false, 0), 2);
        DUE.is("span room", x.span(0, 1, 2, false, 0), -7);
        DUE.is("span hours ahead of room", x.span(0, 2, 1, false, 0), -6);
        x.by(0, true);
        DUE.is("span room, one put by", x.span(0, 1, 2, false, 0), -7);
        DUE.is("never", x.span(0, 1, 2, true, 0), 3);
    }

    private static void wases() {
        SoWhen x = new SoWhen();
        x.thing(1, 0);
        Due.thing(x, 3, "0");
        DUE.is("was", x.was(0, 1, 3, 5, 4), 0);
        due(x, 0, 2, 0, 3, 5, 1, 4, 0);
        DUE.is("was of a running one", x.was(1, 7, 9, 9, 4), 1);
        due(x, 1, 2, 1, 9, 9, 7, 4, 0);
        DUE.is("was v", x.was(0, 2, 3, 5, 4), -6);
        DUE.is("was v", x.was(0, -1, 3, 5, 4), -6);
        DUE.is("was v", x.was(1, 8, 3, 5, 4), -6);
        DUE.is("was v", x.was(1, -1, 3, 5, 4), -6);
        DUE.is("was hours", x.was(0, 1, 6, 5, 4), -6);
        DUE.is("was hours", x.was(0, 1, 0, 12, 4), -6);
        DUE.is("was hours", x.was(0, 1, -1, 5, 4), -6);
        DUE.is("was thing", x.was(2, 9, 9, 5, 4), -1);
        DUE.is("was thing", x.was(-1, 0, 0, 0, 0), -1);
        DUE.is("was mouth", x.was(0, 9, 9, 5, 6), -1);
        DUE.is("was mouth", x.was(0, 0, 0, 0, -1), -1);
    }

    private static void sheets() {
        SoWhen x = new SoWhen();
        x.thing(1, 0);
        Due.thing(x, 3, "0");
        Due.law(x, ":b0", 5, false);
        Due.ints(x, 0, 77, 0, 0, 2, 2, 9, 1, 0, 3, 6, 9, 2, 1, 4, 4, 7, 3, 0, 1, 1, 9, 2, 0, 1, 1,
                2);
        DUE.is("sheet", x.sheet(0, 1, 25, 3), 4);
        due(x, 0, 0, 0, 2, 2, 0, 3, 0);
        due(x, 1, 1, 0, 3, 6, 0, 3, 0);
        due(x, 2, 2, 1, 4, 4, 7, 3, 0);
        due(x, 3, 3, 0, 1, 1, 0, 3, 0);
        DUE.is("sheet of none", x.sheet(0, 26, 0, 3), 0);
        DUE.is("sheet shelf", x.sheet(8, -1, -1, 0), -1);
        DUE.is("sheet mouth", x.sheet(1, -1, -1, 6), -1);
        DUE.is("sheet nothing", x.sheet(1, -1, -1, 0), -3);
        x.show(1, 0);
        DUE.is("sheet piece", x.sheet(1, -1, -1, 0), -2);
        DUE.is("sheet below", x.sheet(0, -1, -1, 0), -4);
        DUE.is("sheet i", x.sheet(0, -1, 3, 0), -5);
        DUE.is("sheet end", x.sheet(0, 2, 25, 0), -5);
        DUE.is("sheet end", x.sheet(0, 2, Integer.MAX_VALUE, 0), -5);
        DUE.is("sheet five", x.sheet(0, 0, 4, 0), -6);
        int[][] wrong = {{0, 0, 2, 3, 0}, {4, 0, 2, 2, 0}, {-1, 0, 2, 2, 0}, {0, 1, 2, 2, 0},
            {2, 2, 0, 0, 0}, {2, 0, 0, 12, 0}, {2, 0, -1, 0, 0}, {2, 0, 3, 2, 0}, {2, 0, 0, 0, -1},
            {2, 1, 0, 0, 8}, {1, 0, 3, 2, 0}, {3, -1, 2, 2, 0}};
        for (int[] five : wrong) {
            Due.ints(x, 2, five);
            DUE.is("sheet of what can't be", x.sheet(2, 0, 5, 0), 0);
        }
        Due.ints(x, 2, 1, 0, 0, 0, 0, 1, 0, 0, 0, 0, 0, 0, 0, 0, 0);
        DUE.is("sheet without room for spans", x.sheet(2, 0, 15, 0), 1);
        sheetOfLongs(x);
        Due.ints(x, 2, 0, 0, 0, 0, 0, 0, 0, 0, 0, 0, 0, 0, 0, 0, 0, 0, 0, 0, 0, 0, 0, 0, 0, 0, 0,
                0, 0, 0, 0, 0, 0, 0, 0, 0, 0, 0, 0, 0, 0, 0, 0, 0, 0, 0, 0, 0, 0, 0, 0, 0);
        DUE.is("sheet of ten", x.sheet(2, 0, 50, 0), 10);
        DUE.is("sheet without room", x.sheet(2, 0, 50, 0), 0);
        DUE.is("pieces", x.status(2), 16);
        DUE.is("refusals -7", x.status(17), 0);
    }

    private static void sheetOfLongs(SoWhen x) {
        x.row(3, 3, 5);
        x.set(3, 0, 0x7_0000_0002L);
        x.set(3, 2, 0x1_0000_0001L);
        x.set(3, 3, 0x1_0000_0002L);
        x.set(3, 4, -0xffff_ffffL);
        DUE.is("sheet of longs", x.sheet(3, 0, 5, 5), 1);
        due(x, 5, 2, 0, 1, 2, 1, 5, 0);
    }

    private static void putting() {
        SoWhen x = new SoWhen();
        x.thing(1, 0);
        x.was(0, 0, 3, 3, 0);
        x.was(0, 1, 3, 3, 0);
        DUE.is("least", x.least(), -1);
        DUE.is("by", x.by(0, false), 0);
        DUE.is("by", x.by(0, true), 1);
        DUE.is("by", x.by(0, true), 0);
        DUE.is("put by", x.pieceOf(0, 6), 1);
        DUE.is("put by", x.status(3), 1);
        DUE.is("least", x.least(), 0);
        DUE.is("is", x.is(0, 3), 1);
        DUE.is("why", x.why(0, 3), 2);
        DUE.is("seemed", x.seemed(0, 11, 0, 3), 1);
        DUE.is("by", x.by(0, false), 1);
        DUE.is("put by", x.status(3), 0);
        DUE.is("least", x.least(), -1);
        DUE.is("by none", x.by(2, true), -1);
        DUE.is("by none", x.by(-1, true), -1);
        DUE.is("by none", x.by(32, true), -1);
    }

    private static void act(SoWhen x, int piece, int act, int n, int due, int... bodies) {
        String call = "act " + piece + " " + act + " " + n;
        DUE.is(call, x.act(piece, act, n), due);
        DUE.is("bodies of " + call, x.status(4), bodies.length);
        for (int i = 0; i < bodies.length; i++) {
            DUE.is("body " + i + " of " + call, x.trace(i), bodies[i]);
        }
        DUE.is("no body after " + call, x.trace(bodies.length), -1);
        DUE.is("no body before " + call, x.trace(-1), -1);
    }

    private static void acts() {
        SoWhen x = new SoWhen();
        x.thing(1, 0);
        Due.law(x, ":b0", 5, false);
        x.seen(0, 9, 0);
        x.seen(0, 3, 5);
        x.span(0, 4, 7, false, 4);
        x.was(0, 1, 5, 6, 3);
        x.span(0, 6, 9, true, 2);
        act(x, 1, 0, 10, 13, 10);
        act(x, 1, 1, 10, 26, 11, 10);
        act(x, 1, 2, 10, 26 ^ 12, 12, 11, 10, 10);
        act(x, 2, 0, 10, 14, 10);
        act(x, 2, 1, 10, 30, 20, 11, 10);
        act(x, 2, 2, 10, 30 ^ 12, 12, 20, 11, 10, 10);
        act(x, 3, 0, 10, 45, 30, 10);
        act(x, 3, 1, 10, 90, 11, 30, 10);
        act(x, 3, 2, 10, (90 ^ 36) - 5, 31, 12, 11, 30, 10, 30, 10);
        act(x, 4, 0, 10, 17, 41, 10);
        act(x, 4, 1, 10, -38, 40, 20, 11, 41, 10);
        act(x, 4, 2, 10, -38 ^ 13, 12, 40, 20, 11, 41, 10, 41, 10);
        act(x, 4, 3, 10, 0);
        act(x, 1, 1, Integer.MAX_VALUE, (Integer.MAX_VALUE + 3) * 2, 11, 10);
        act(x, 5, 0, 10, 0);
        act(x, 3, 0, Integer.MAX_VALUE, (Integer.MAX_VALUE + 5) * 3, 30, 10);
        act(x, -1, 0, 10, 0);
        x.by(1, true);
        act(x, 1, 0, -4, -1, 10);
        act(x, 1, -1, 10, 0);
        DUE.is("no refusals", x.status(11) + x.status(15) + x.status(16), 0);
    }
}
