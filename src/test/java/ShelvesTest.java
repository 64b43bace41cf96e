/** Promises 1 to 8, 36 to 38: shelves, rows, images and the counts of refusals. */
public final class ShelvesTest {
    private static final Due DUE = new Due("ShelvesTest");

    public static void main(String[] args) {
        newObject();
        rows();
        sets();
        copies();
        shows();
        saying();
        images();
        counts();
        DUE.end();
    }

    private static void newObject() {
        SoWhen x = new SoWhen();
        for (int i = 0; i <= 4; i++) {
            DUE.is("status " + i, x.status(i), 0);
        }
        for (int i = 11; i <= 17; i++) {
            DUE.is("status " + i, x.status(i), 0);
        }
        for (int s = 0; s < 8; s++) {
            DUE.is("holds " + s, x.holds(s), -1);
        }
        DUE.is("fault", x.fault(), -1);
        DUE.is("trace", x.trace(0), -1);
        DUE.is("least", x.least(), 0);
        DUE.is("courses", x.courses(), 1);
        DUE.is("could", x.could(3), 64);
        DUE.is("plan", x.plan(0, 0, 1), -1);
        DUE.is("NONE", SoWhen.NONE, -1);
    }

    private static void rows() {
        SoWhen x = new SoWhen();
        DUE.is("row", x.row(0, 0, 60), 1);
        DUE.is("row empty", x.row(7, 3, 0), 1);
        DUE.is("holds", x.holds(0), 100);
        DUE.is("holds", x.holds(7), 103);
        DUE.is("holds none", x.holds(8), -1);
        DUE.is("holds none", x.holds(-1), -1);
        DUE.is("row shelf", x.row(8, 9, -1), -1);
        DUE.is("row shelf", x.row(-1, 0, 1), -1);
        DUE.is("row below", x.row(0, 9, -1), -4);
        DUE.is("row sort", x.row(0, 4, 61), -6);
        DUE.is("row sort", x.row(0, -1, 3), -6);
        DUE.is("row room", x.row(0, 3, 61), -7);
        DUE.is("row room", x.row(0, 3, Integer.MAX_VALUE), -7);
        DUE.is("row below", x.row(0, 3, Integer.MIN_VALUE), -4);
        DUE.is("holds still", x.holds(0), 100);
        x.set(0, 5, 9);
        DUE.is("row again", x.row(0, 0, 8), 1);
        DUE.is("new row is 0", x.element(0, 5), 0);
        DUE.is("shorter", x.set(0, 8, 1), -5);
    }

    private static void sets() {
        SoWhen x = new SoWhen();
        long v = 0x1234_5678_9abc_def0L;
        long[] kept = {(byte) 0xf0, (short) 0xdef0, 0x9abc_def0, v};
        for (int sort = 0; sort < 4; sort++) {
            x.row(sort, sort, 2);
            DUE.is("set", x.set(sort, 1, v), 1);
            DUE.is("element of sort " + sort, x.element(sort, 1), kept[sort]);
            DUE.is("element before", x.element(sort, 0), 0);
        }
        DUE.is("set shelf", x.set(8, 0, 1), -1);
        DUE.is("set shelf", x.set(-1, 0, 1), -1);
        DUE.is("set nothing", x.set(4, 0, 1), -3);
        DUE.is("set beyond", x.set(0, 2, 1), -5);
        DUE.is("set beyond", x.set(0, -1, 1), -5);
        DUE.is("element beyond", x.element(0, 2), 0);
        DUE.is("element beyond", x.element(0, -1), 0);
        DUE.is("element of nothing", x.element(4, 0), 0);
        DUE.is("element of no shelf", x.element(9, 0), 0);
        onePiece(x);
        x.show(5, 0);
        DUE.is("set a piece", x.set(5, 0, 1), -2);
        DUE.is("element of a piece", x.element(5, 0), 0);
        DUE.is("refusals -1", x.status(11), 2);
        DUE.is("refusals -2", x.status(12), 1);
        DUE.is("refusals -3", x.status(13), 1);
        DUE.is("refusals -5", x.status(15), 2);
    }

    private static void onePiece(SoWhen x) {
        x.thing(1, 0);
        DUE.is("was", x.was(0, 1, 2, 4, 3), 0);
    }

    private static void copies() {
        SoWhen x = new SoWhen();
        Due.ints(x, 0, 1, 2, 3, 4, 5);
        Due.ints(x, 1, 0, 0, 0);
        x.row(2, 1, 3);
        onePiece(x);
        x.show(3, 0);
        DUE.is("copy", x.copy(0, 1, 1, 0, 3), 1);
        DUE.is("copied", x.element(1, 0) * 100 + x.element(1, 1) * 10 + x.element(1, 2), 234);
        DUE.is("copy onto itself", x.copy(0, 0, 0, 1, 4), 1);
        DUE.is("as ahead", x.element(0, 1) * 1000 + x.element(0, 2) * 100 + x.element(0, 3) * 10
                + x.element(0, 4), 1234);
        DUE.is("copy back", x.copy(0, 0, 1, 0, 4), 1);
        DUE.is("as ahead", x.element(0, 0) * 1000 + x.element(0, 1) * 100 + x.element(0, 2) * 10
                + x.element(0, 3), 1234);
        DUE.is("copy none at the end", x.copy(0, 1, 5, 3, 0), 1);
        DUE.is("copy shelf", x.copy(0, 8, 0, 0, 1), -1);
        DUE.is("copy shelf ahead of a piece", x.copy(3, -1, 0, 0, -1), -1);
        DUE.is("copy a piece ahead of nothing", x.copy(4, 3, 0, 0, -1), -2);
        DUE.is("copy a piece", x.copy(3, 0, 0, 0, 1), -2);
        DUE.is("copy two sorts", x.copy(0, 2, 0, 0, -1), -2);
        DUE.is("copy nothing", x.copy(4, 0, 0, 0, -1), -3);
        DUE.is("copy to nothing", x.copy(0, 4, 0, 0, -1), -3);
        DUE.is("copy below", x.copy(0, 1, -1, 0, -1), -4);
        DUE.is("copy i", x.copy(0, 1, -1, 0, 1), -5);
        DUE.is("copy j", x.copy(0, 1, 0, -1, 1), -5);
        DUE.is("copy end of p", x.copy(0, 1, 5, 0, 1), -5);
        DUE.is("copy end of q", x.copy(0, 1, 0, 1, 3), -5);
        DUE.is("copy far", x.copy(0, 1, 1, 0, Integer.MAX_VALUE), -5);
        DUE.is("copy far", x.copy(0, 1, Integer.MAX_VALUE, 0, 0), -5);
        DUE.is("copy far", x.copy(0, 1, 0, 4, 0), -5);
    }

    private static void shows() {
        SoWhen x = new SoWhen();
        DUE.is("show none such", x.show(0, 0), -1);
        onePiece(x);
        DUE.is("show", x.show(0, 0), 1);
        DUE.is("holds", x.holds(0), 0);
        DUE.is("show nothing", x.show(0, -1), 0);
        DUE.is("holds", x.holds(0), -1);
        DUE.is("show no shelf", x.show(8, 0), -1);
        DUE.is("show no shelf", x.show(-1, -1), -1);
        DUE.is("show no piece", x.show(0, 1), -1);
        DUE.is("show no piece", x.show(0, -2), -1);
        x.row(1, 2, 4);
        DUE.is("show over a row", x.show(1, 0), 1);
        DUE.is("holds", x.holds(1), 0);
        DUE.is("row over a piece", x.row(1, 1, 4), 1);
        DUE.is("holds", x.holds(1), 101);
        DUE.is("show nothing over a row", x.show(1, -1), 0);
        DUE.is("element", x.set(1, 0, 1), -3);
    }

    private static void saying() {
        SoWhen x = new SoWhen();
        x.thing(1, 0);
        Due.law(x, ":b0", 1, false);
        x.seen(0, 3, 5);
        x.span(0, 2, 7, false, 4);
        x.was(0, 1, 1, 6, 3);
        x.span(0, 8, 9, true, 2);
        int[][] due = {{5, -2, -2, -2}, {4, 7, -2, -2}, {3, -2, 1, -2}, {2, 9, -2, 9}};
        for (int piece = 0; piece < 4; piece++) {
            x.show(piece, piece);
            for (int kind = 0; kind < 4; kind++) {
                DUE.is("says " + piece + " " + kind, x.says(piece, kind), due[piece][kind]);
            }
        }
        DUE.is("says shelf", x.says(8, 0), -1);
        DUE.is("says kind", x.says(4, 4), -1);
        DUE.is("says kind", x.says(4, -1), -1);
        DUE.is("says nothing", x.says(4, 2), -3);
        DUE.is("says a row", x.says(7, 0), -2);
        DUE.is("refusals -2", x.status(12), 9);
    }

    private static void images() {
        SoWhen x = new SoWhen();
        DUE.is("restore without", x.restore(), -6);
        x.thing(1, 0);
        Due.law(x, ":b0", 4, false);
        x.was(0, 0, 0, 0, 0);
        x.was(0, 1, 5, 5, 1);
        x.weigh(1, 7);
        x.by(0, true);
        DUE.is("image", x.image(), 2);
        x.was(0, 0, 6, 6, 2);
        x.show(0, 1);
        x.show(1, 2);
        x.show(3, 0);
        x.row(2, 0, 1);
        x.price(0, 9);
        x.weigh(1, 8);
        x.by(0, false);
        x.thing(0, 0);
        Due.law(x, "!:", 4, false);
        int fault = x.fault();
        Due.law(x, "1:e0", 4, false);
        Due.law(x, "!:", 4, false);
        x.act(1, 0, 5);
        DUE.is("restore", x.restore(), 2);
        DUE.is("things", x.status(0), 1);
        DUE.is("happenings", x.status(1), 1);
        DUE.is("pieces", x.status(2), 2);
        DUE.is("put by", x.status(3), 1);
        DUE.is("holds", x.holds(0), 1);
        DUE.is("holds", x.holds(1), -1);
        DUE.is("holds", x.holds(2), 100);
        DUE.is("holds", x.holds(3), 0);
        DUE.is("fault stays", x.fault(), fault);
        DUE.is("trace stays", x.trace(0), 30);
        DUE.is("refusals stay", x.status(16), 3);
        DUE.is("price", x.price(0, 3), 4);
        DUE.is("weight", x.weigh(1, 3), 7);
        DUE.is("least", x.least(), 0);
        DUE.is("by", x.by(0, false), 1);
        DUE.is("least", x.least(), 3);
        DUE.is("restore again", x.restore(), 2);
        DUE.is("put by", x.status(3), 1);
        DUE.is("price again", x.price(0, 3), 4);
        DUE.is("image again", x.image(), 2);
        for (int s = 0; s < 8; s++) {
            x.was(0, 1, 5, 5, 1);
            DUE.is("show", x.show(s, 2), 1);
        }
        x.restore();
        for (int s = 0; s < 8; s++) {
            DUE.is("holds", x.holds(s), -1);
        }
        DUE.is("price by the later image", x.price(0, 3), 3);
    }

    private static void counts() {
        SoWhen x = new SoWhen();
        DUE.is("status", x.status(-1), -1);
        DUE.is("status", x.status(5), -1);
        DUE.is("status", x.status(10), -1);
        DUE.is("status", x.status(18), -1);
        DUE.is("status", x.status(Integer.MIN_VALUE), -1);
        x.row(0, 0, -1);
        x.row(0, 0, -1);
        x.row(0, 0, 61);
        x.pieceOf(0, 0);
        x.is(0, 0);
        x.why(0, 0);
        x.howLong(9, 9, 9);
        x.act(0, 0, 0);
        x.trace(0);
        x.element(9, 9);
        x.holds(9);
        int[] due = {0, 0, 0, 2, 1, 0, 1};
        for (int i = 0; i < 7; i++) {
            DUE.is("refusals", x.status(11 + i), due[i]);
        }
    }
}
