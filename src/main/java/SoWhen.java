import java.util.Arrays;

/**
 * What was so when: things, happenings by laws, pieces told by several mouths, and what follows by
 * all the cheapest courses that agree with them. The document's promises are named by number.
 *
 * <p>All rows are made once, in constructors: a run's calls share one room, and nothing is freed.
 */
public final class SoWhen {
    public static final int NONE = -1;

    /** The refusals. */
    private static final int NOBODY = -1;
    private static final int OTHER = -2;
    private static final int NOTHING = -3;
    private static final int BELOW = -4;
    private static final int BEYOND = -5;
    private static final int WRONG = -6;
    private static final int ROOM = -7;

    /** The kinds of things. */
    private static final int FREE = 0;
    private static final int KEPT = 1;
    private static final int BY = 2;
    private static final int RUNNING = 3;

    /** The kinds of pieces. */
    private static final int SEEN = 0;
    private static final int SPAN = 1;
    private static final int WAS = 2;
    private static final int NEVER = 3;

    private static final int KINDS = 4;
    private static final int HOURS = 12;
    private static final int MOUTHS = 6;
    private static final int SHELVES = 8;
    private static final int MOST_SORT = 3;
    private static final int MOST_CELLS = 60;
    private static final int MOST_THINGS = 10;
    private static final int MOST_HAPPENINGS = 6;
    private static final int MOST_PIECES = 16;
    private static final int MOST_SPANS = 2;
    private static final int MOST_NUMBER = 99;
    private static final int MOST_VALUE = 7;
    private static final int SHEET_STEP = 5;
    private static final int ACTS = 3;

    /** What a shelf holds, when it holds a row: this and the row's sort. */
    private static final int ROW = 100;

    /** The choice of an hour in which nothing happens; those below it are the happenings. */
    private static final int IDLE = 6;
    private static final int CHOICES = IDLE + 1;

    /**
     * A state of an hour: two bits of SPAN pieces that came already above eight low ones: the
     * RUNNING thing's value above as many as there are KEPT things. A look is such, with two bits
     * of FREE things in the place of those of SPAN pieces.
     */
    private static final int STATES = 1024;
    private static final int TOP_SHIFT = 8;
    private static final int LOW_BITS = (1 << TOP_SHIFT) - 1;

    /** In a look's truth: the things' bits from 0 on, then the happenings' conditions, then this. */
    private static final int LAW_BITS = MOST_THINGS;
    private static final int RUNS_BIT = LAW_BITS + MOST_HAPPENINGS;

    private final Shelf[] shelves = new Shelf[SHELVES];
    private final World world = new World();
    private final World taken = new World();
    private final Reader reader = new Reader(world);
    private final int[] truth = new int[STATES];
    private final int[] nexts = new int[STATES * CHOICES];
    private final Courses now = new Courses(world, truth, nexts);
    private final Courses trial = new Courses(world, truth, nexts);
    private final int[] refusals = new int[8];
    private final int[] lastAct = new int[1 + Seen.TRACED];
    private boolean imaged = false;
    private boolean truthStale = true;
    private boolean nowStale = true;
    private int lastFault = NONE;

    /** Promise 1. */
    public SoWhen() {
        for (int s = 0; s < SHELVES; s++) {
            shelves[s] = new Shelf();
        }
    }

    /** Promise 2. */
    public int row(int s, int sort, int n) {
        if (!isShelf(s)) {
            return refuse(NOBODY);
        }
        if (n < 0) {
            return refuse(BELOW);
        }
        if (sort < 0 || sort > MOST_SORT) {
            return refuse(WRONG);
        }
        if (n > MOST_CELLS) {
            return refuse(ROOM);
        }
        shelves[s].takeRow(sort, n);
        return 1;
    }

    /** Promise 3. */
    public int set(int s, int i, long v) {
        int trouble = rowTrouble(s);
        if (trouble != 0) {
            return refuse(trouble);
        }
        if (!shelves[s].has(i)) {
            return refuse(BEYOND);
        }
        shelves[s].put(i, v);
        return 1;
    }

    /** Promise 4. */
    public int copy(int p, int q, int i, int j, int n) {
        if (!isShelf(p) || !isShelf(q)) {
            return refuse(NOBODY);
        }
        Shelf from = shelves[p];
        Shelf to = shelves[q];
        if (from.holdsPiece() || to.holdsPiece()) {
            return refuse(OTHER);
        }
        if (from.holdsRow() && to.holdsRow() && from.held != to.held) {
            return refuse(OTHER);
        }
        if (!from.holdsRow() || !to.holdsRow()) {
            return refuse(NOTHING);
        }
        if (n < 0) {
            return refuse(BELOW);
        }
        if (!from.reaches(i, n) || !to.reaches(j, n)) {
            return refuse(BEYOND);
        }
        System.arraycopy(from.cells, i, to.cells, j, n);
        return 1;
    }

    /** Promise 5. */
    public long element(int s, int i) {
        return isShelf(s) ? shelves[s].cellAt(i) : 0L;
    }

    /** Promise 6. */
    public int show(int s, int piece) {
        if (!isShelf(s) || piece != NONE && world.pieceAt(piece) == null) {
            return refuse(NOBODY);
        }
        shelves[s].takePiece(piece);
        return piece == NONE ? 0 : 1;
    }

    /** Promise 7. */
    public int holds(int s) {
        return isShelf(s) ? shelves[s].held : NONE;
    }

    /** Promise 8. */
    public int says(int s, int kind) {
        if (!isShelf(s) || !isKind(kind)) {
            return refuse(NOBODY);
        }
        if (shelves[s].holdsRow()) {
            return refuse(OTHER);
        }
        Seen piece = world.pieceAt(shelves[s].held);
        if (piece == null) {
            return refuse(NOTHING);
        }
        if (!isOf(piece, kind)) {
            return refuse(OTHER);
        }
        if (kind == SEEN) {
            return piece.mouth;
        }
        return kind == WAS ? piece.v : piece.q;
    }

    /** Promise 9. */
    public int thing(int kind, int s) {
        if (!isKind(kind)) {
            return refuse(NOBODY);
        }
        if (kind == BY || kind == RUNNING) {
            int trouble = rowTrouble(s);
            if (trouble == 0) {
                trouble = readingTrouble(s, false);
            }
            if (trouble != 0) {
                return refuse(trouble);
            }
        }
        if (!world.hasRoomFor(kind)) {
            return refuse(ROOM);
        }
        truthStale = true;
        nowStale = true;
        return world.addThing(kind, reader.law.condition);
    }

    /** Promise 10. */
    public int happening(int s, int price, boolean strict) {
        int trouble = rowTrouble(s);
        if (trouble == 0) {
            trouble = isNumber(price) ? readingTrouble(s, true) : WRONG;
        }
        if (trouble != 0) {
            return refuse(trouble);
        }
        if (world.happenings >= MOST_HAPPENINGS) {
            return refuse(ROOM);
        }
        truthStale = true;
        nowStale = true;
        return world.addHappening(reader.law, price, strict);
    }

    /** Promise 11. */
    public int fault() {
        return lastFault;
    }

    /** Promise 12. */
    public int price(int happening, int v) {
        if (!isHappening(happening)) {
            return refuse(NOBODY);
        }
        if (!isNumber(v)) {
            return refuse(WRONG);
        }
        int old = world.laws[happening].price;
        world.laws[happening].price = v;
        nowStale = true;
        return old;
    }

    /** Promise 13. */
    public int weigh(int mouth, int v) {
        if (!isMouth(mouth)) {
            return refuse(NOBODY);
        }
        if (!isNumber(v)) {
            return refuse(WRONG);
        }
        int old = world.weights[mouth];
        world.weights[mouth] = v;
        return old;
    }

    /** Promise 14. */
    public int seen(int happening, int hour, int mouth) {
        if (!isHappening(happening) || !isMouth(mouth)) {
            return refuse(NOBODY);
        }
        if (!isHour(hour)) {
            return refuse(WRONG);
        }
        return tell(SEEN, happening, hour, hour, 0, mouth);
    }

    /** Promise 15. */
    public int span(int happening, int p, int q, boolean never, int mouth) {
        if (!isHappening(happening) || !isMouth(mouth)) {
            return refuse(NOBODY);
        }
        if (!areHours(p, q)) {
            return refuse(WRONG);
        }
        return tell(never ? NEVER : SPAN, happening, p, q, 0, mouth);
    }

    /** Promise 16. */
    public int was(int thing, int v, int p, int q, int mouth) {
        if (!isThing(thing) || !isMouth(mouth)) {
            return refuse(NOBODY);
        }
        if (!areHours(p, q) || !canHave(thing, v)) {
            return refuse(WRONG);
        }
        return tell(WAS, thing, p, q, v, mouth);
    }

    /** Promise 17. */
    public int sheet(int s, int i, int n, int mouth) {
        int trouble = isMouth(mouth) ? rowTrouble(s) : NOBODY;
        if (trouble != 0) {
            return refuse(trouble);
        }
        if (n < 0) {
            return refuse(BELOW);
        }
        if (!shelves[s].reaches(i, n)) {
            return refuse(BEYOND);
        }
        if (n % SHEET_STEP != 0) {
            return refuse(WRONG);
        }
        int came = 0;
        for (int at = i; at < i + n; at += SHEET_STEP) {
            if (!tellFrom(shelves[s], at, mouth)) {
                break;
            }
            came++;
        }
        return came;
    }

    /** Promise 18. */
    public int by(int piece, boolean put) {
        if (world.pieceAt(piece) == null) {
            return refuse(NOBODY);
        }
        if (world.isPutBy(piece) == put) {
            return 0;
        }
        world.putBy ^= 1 << piece;
        nowStale = true;
        return 1;
    }

    /** Promise 19. */
    public int pieceOf(int piece, int what) {
        Seen told = world.pieceAt(piece);
        if (told == null) {
            return refuse(BEYOND);
        }
        switch (what) {
            case 0:
                return told.kind;
            case 1:
                return told.what;
            case 2:
                return told.p;
            case 3:
                return told.q;
            case 4:
                return told.v;
            case 5:
                return told.mouth;
            case 6:
                return world.isPutBy(piece) ? 1 : 0;
            default:
                return refuse(BEYOND);
        }
    }

    /** Promise 20. */
    public int least() {
        return current().cheapest;
    }

    /** Promise 21. */
    public long courses() {
        return current().count;
    }

    /** Promise 22. */
    public int is(int thing, int hour) {
        return isThing(thing) && isHour(hour) ? current().soOf(thing, hour) : NONE;
    }

    /** Promise 23. */
    public int value(int thing, int hour) {
        if (!isRunning(thing) || !isHour(hour)) {
            return NONE;
        }
        Courses all = current();
        return all.cheapest == NONE ? NONE : joined(all.values[hour], 10);
    }

    /** Promise 24. */
    public int why(int thing, int hour) {
        if (!isThing(thing) || !isHour(hour)) {
            return NONE;
        }
        int so = current().soOf(thing, hour);
        if (so != 0 && so != 1) {
            return NONE;
        }
        int stay = world.inForce();
        for (int piece = 0; piece < world.pieces; piece++) {
            int others = stay & ~(1 << piece);
            if (others != stay && seems(others, thing, hour) == so) {
                stay = others;
            }
        }
        return stay;
    }

    /** Promise 25. */
    public int quarrel() {
        if (current().cheapest != NONE) {
            return 0;
        }
        int stay = world.inForce();
        for (int piece = 0; piece < world.pieces; piece++) {
            int others = stay & ~(1 << piece);
            if (others != stay && !trial.find(others, NONE, NONE)) {
                stay = others;
            }
        }
        return stay;
    }

    /** Promise 26. */
    public int out() {
        if (current().cheapest != NONE) {
            return NONE;
        }
        int all = world.inForce();
        int found = NONE;
        int lightest = MOST_NUMBER + 1;
        for (int piece = 0; piece < world.pieces; piece++) {
            int weight = world.weightOf(piece);
            int others = all & ~(1 << piece);
            if (others != all && weight < lightest && trial.find(others, NONE, NONE)) {
                found = piece;
                lightest = weight;
            }
        }
        return found;
    }

    /** Promise 27. */
    public int must(int happening, int p, int q) {
        if (!isHappening(happening) || !areHours(p, q)) {
            return NONE;
        }
        return inSome(current().tally(LAW_BITS + happening, p, q));
    }

    /** Promise 28. */
    public int could(int hour) {
        if (!isHour(hour)) {
            return NONE;
        }
        Courses all = current();
        return all.cheapest == NONE ? NONE : all.chosen[hour];
    }

    /** Promise 29. */
    public int ever(int thing, int p, int q) {
        if (!isThing(thing) || !areHours(p, q)) {
            return NONE;
        }
        return inSome(current().tally(thing, p, q));
    }

    /** Promise 30. */
    public int howLong(int thing, int p, int q) {
        if (!isThing(thing) || !areHours(p, q)) {
            return NONE;
        }
        int numbers = current().tally(thing, p, q);
        return numbers == 0 ? NONE : joined(numbers, 100);
    }

    /** Promise 31. */
    public int since(int thing, int hour) {
        if (!isThing(thing) || !isHour(hour) || current().soOf(thing, hour) != 1) {
            return NONE;
        }
        int first = hour;
        for (int h = hour; h >= 0 && now.soOf(thing, h) == 1; h--) {
            first = h;
        }
        return first;
    }

    /** Promise 32. */
    public int plan(int thing, int p, int q) {
        if (!isThing(thing) || !areHours(p, q) || current().cheapest == NONE) {
            return NONE;
        }
        for (int hour = p; hour < q; hour++) {
            for (int h = 0; h < world.happenings; h++) {
                if (wouldBring(h, hour, thing, q)) {
                    return 10 * hour + h;
                }
            }
        }
        return NONE;
    }

    /** Promise 33. */
    public int seemed(int mouth, int by, int thing, int hour) {
        if (!isMouth(mouth) || !isHour(by) || !isThing(thing) || !isHour(hour)) {
            return NONE;
        }
        return seems(world.toldBy(mouth, by), thing, hour);
    }

    /** Promise 34. */
    public int act(int piece, int act, int x) {
        lastAct[0] = 0;
        Seen told = world.pieceAt(piece);
        if (told == null || act < 0 || act >= ACTS) {
            return 0;
        }
        if (act == 0) {
            return told.tells(x, lastAct);
        }
        return act == 1 ? told.binds(x, lastAct) : told.weighs(x, lastAct);
    }

    /** Promise 35. */
    public int trace(int i) {
        return i >= 0 && i < Seen.TRACED && i < lastAct[0] ? lastAct[1 + i] : NONE;
    }

    /** Promise 36. */
    public int image() {
        taken.become(world);
        imaged = true;
        return taken.pieces;
    }

    /** Promise 37. */
    public int restore() {
        if (!imaged) {
            return refuse(WRONG);
        }
        world.become(taken);
        truthStale = true;
        nowStale = true;
        for (int s = 0; s < SHELVES; s++) {
            if (shelves[s].holdsPiece() && shelves[s].held >= world.pieces) {
                shelves[s].takePiece(NONE);
            }
        }
        return world.pieces;
    }

    /** Promise 38. */
    public int status(int what) {
        switch (what) {
            case 0:
                return world.things;
            case 1:
                return world.happenings;
            case 2:
                return world.pieces;
            case 3:
                return Integer.bitCount(world.putBy);
            case 4:
                return lastAct[0];
            default:
                return what >= 11 && what <= 17 ? refusals[what - 10] : NONE;
        }
    }

    private int refuse(int number) {
        int at = -number;
        if (at >= 0 && at < refusals.length) {
            refusals[at]++;
        }
        return number;
    }

    private static boolean isShelf(int s) {
        return s >= 0 && s < SHELVES;
    }

    private static boolean isKind(int kind) {
        return kind >= 0 && kind < KINDS;
    }

    private static boolean isMouth(int mouth) {
        return mouth >= 0 && mouth < MOUTHS;
    }

    private static boolean isHour(int hour) {
        return hour >= 0 && hour < HOURS;
    }

    private static boolean areHours(int p, int q) {
        return isHour(p) && isHour(q) && p <= q;
    }

    /** Whether v may be a price or a weight. */
    private static boolean isNumber(int v) {
        return v >= 0 && v <= MOST_NUMBER;
    }

    private boolean isThing(int thing) {
        return thing >= 0 && thing < world.things;
    }

    private boolean isHappening(int happening) {
        return happening >= 0 && happening < world.happenings;
    }

    private boolean isRunning(int thing) {
        return isThing(thing) && world.kinds[thing] == RUNNING;
    }

    private boolean canHave(int thing, int v) {
        return v >= 0 && v <= (isRunning(thing) ? MOST_VALUE : 1);
    }

    private static boolean isOf(Seen piece, int kind) {
        switch (kind) {
            case SPAN:
                return piece instanceof Span;
            case WAS:
                return piece instanceof Was;
            case NEVER:
                return piece instanceof Never;
            default:
                return true;
        }
    }

    /** Why the row in a shelf can't be had; 0 if it can. */
    private int rowTrouble(int s) {
        if (!isShelf(s)) {
            return NOBODY;
        }
        if (shelves[s].holdsRow()) {
            return 0;
        }
        return shelves[s].holdsPiece() ? OTHER : NOTHING;
    }

    private int readingTrouble(int s, boolean asLaw) {
        lastFault = reader.read(shelves[s], asLaw);
        return lastFault == NONE ? 0 : WRONG;
    }

    private int tell(int kind, int what, int p, int q, int v, int mouth) {
        if (!world.hasRoomForPiece(kind)) {
            return refuse(ROOM);
        }
        nowStale = true;
        return world.addPiece(kind, what, p, q, v, mouth);
    }

    /** Tells the piece that five elements of a sheet make; false if they make none. */
    private boolean tellFrom(Shelf shelf, int at, int mouth) {
        int kind = shelf.intAt(at);
        int what = shelf.intAt(at + 1);
        int p = shelf.intAt(at + 2);
        int q = shelf.intAt(at + 3);
        int v = shelf.intAt(at + 4);
        if (!isKind(kind) || !areHours(p, q) || kind == SEEN && p != q) {
            return false;
        }
        boolean fits = kind == WAS ? isThing(what) && canHave(what, v) : isHappening(what);
        if (!fits || !world.hasRoomForPiece(kind)) {
            return false;
        }
        tell(kind, what, p, q, kind == WAS ? v : 0, mouth);
        return true;
    }

    /** The courses as things stand. */
    private Courses current() {
        freshenTruth();
        if (nowStale) {
            nowStale = false;
            if (now.find(world.inForce(), NONE, NONE)) {
                now.keepBest(0);
            }
        }
        return now;
    }

    private void freshenTruth() {
        if (truthStale) {
            truthStale = false;
            world.fillTables(truth, nexts);
        }
    }

    /** What is() would answer by a set of pieces alone. */
    private int seems(int set, int thing, int hour) {
        freshenTruth();
        if (!trial.find(set, NONE, NONE)) {
            return NONE;
        }
        trial.keepBest(hour);
        return trial.soOf(thing, hour);
    }

    /** Whether a happening, were it seen in an hour, would make a thing so in hour q. */
    private boolean wouldBring(int happening, int hour, int thing, int q) {
        if (world.isSeenIn(hour) || !now.surely(LAW_BITS + happening, hour)) {
            return false;
        }
        if (!trial.find(world.inForce(), happening, hour)) {
            return false;
        }
        trial.keepBest(q);
        return trial.soOf(thing, q) == 1;
    }

    /** Of a set of numbers of hours: 1 none is 0, 0 all are, 2 some; NONE if the set is empty. */
    private static int inSome(int numbers) {
        if (numbers == 0) {
            return NONE;
        }
        if ((numbers & 1) == 0) {
            return 1;
        }
        return numbers == 1 ? 0 : 2;
    }

    /** The most of a set of numbers (bits, not empty), times a factor, and the least. */
    private static int joined(int numbers, int factor) {
        int most = 0;
        int least = 0;
        for (int n = HOURS; n >= 0; n--) {
            if ((numbers >> n & 1) != 0) {
                most = Math.max(most, n);
                least = n;
            }
        }
        return factor * most + least;
    }

    /** A shelf, and the cells of the row that it may hold. */
    private static final class Shelf {
        /** NONE, a piece's number, or ROW and a sort. */
        int held = NONE;
        int size = 0;
        final long[] cells = new long[MOST_CELLS];

        boolean holdsRow() {
            return held >= ROW;
        }

        boolean holdsPiece() {
            return held != NONE && held < ROW;
        }

        void takeRow(int sort, int n) {
            held = ROW + sort;
            size = n;
            Arrays.fill(cells, 0L);
        }

        void takePiece(int piece) {
            held = piece;
            size = 0;
        }

        boolean has(int i) {
            return i >= 0 && i < size;
        }

        boolean reaches(int i, int n) {
            return i >= 0 && (long) i + n <= size;
        }

        void put(int i, long v) {
            if (has(i)) {
                cells[i] = narrowed(v);
            }
        }

        long cellAt(int i) {
            return has(i) ? cells[i] : 0L;
        }

        int intAt(int i) {
            return (int) cellAt(i);
        }

        private long narrowed(long v) {
            switch (held - ROW) {
                case 0:
                    return (byte) v;
                case 1:
                    return (short) v;
                case 2:
                    return (int) v;
                default:
                    return v;
            }
        }
    }

    /** A condition: so if one of its ALLs is, or if it has none. */
    private static final class Condition {
        /** Sixty letters hold no more ALLs. */
        private static final int MOST_ALLS = 30;

        int alls = 0;
        final int[] so = new int[MOST_ALLS];
        final int[] notSo = new int[MOST_ALLS];
        final int[] above = new int[MOST_ALLS];
        final int[] notAbove = new int[MOST_ALLS];

        void become(Condition other) {
            alls = other.alls;
            System.arraycopy(other.so, 0, so, 0, MOST_ALLS);
            System.arraycopy(other.notSo, 0, notSo, 0, MOST_ALLS);
            System.arraycopy(other.above, 0, above, 0, MOST_ALLS);
            System.arraycopy(other.notAbove, 0, notAbove, 0, MOST_ALLS);
        }

        void openAll() {
            if (alls < MOST_ALLS) {
                so[alls] = 0;
                notSo[alls] = 0;
                above[alls] = NONE;
                notAbove[alls] = MOST_VALUE;
                alls++;
            }
        }

        void addSo(int thing, boolean negated) {
            int last = alls - 1;
            if (last < 0) {
                return;
            }
            if (negated) {
                notSo[last] |= 1 << thing;
            } else {
                so[last] |= 1 << thing;
            }
        }

        void addAbove(int bound, boolean negated) {
            int last = alls - 1;
            if (last < 0) {
                return;
            }
            if (negated) {
                notAbove[last] = Math.min(notAbove[last], bound);
            } else {
                above[last] = Math.max(above[last], bound);
            }
        }

        boolean isMet(int things, int run) {
            for (int i = 0; i < alls; i++) {
                boolean met = (things & so[i]) == so[i] && (things & notSo[i]) == 0;
                if (met && run > above[i] && run <= notAbove[i]) {
                    return true;
                }
            }
            return alls == 0;
        }
    }

    /** A happening's law; its effects on KEPT things are bits by their places among these. */
    private static final class Law {
        final Condition condition = new Condition();
        int begins = 0;
        int ends = 0;
        boolean stills = false;
        int price = 0;
        boolean strict = false;

        void become(Law other) {
            condition.become(other.condition);
            begins = other.begins;
            ends = other.ends;
            stills = other.stills;
            price = other.price;
            strict = other.strict;
        }

        void clear() {
            condition.alls = 0;
            begins = 0;
            ends = 0;
            stills = false;
        }

        /** The last effect on a thing counts, so that each takes the other's bit away. */
        void addEffect(int place, boolean begin) {
            int bit = 1 << place;
            begins = begin ? begins | bit : begins & ~bit;
            ends = begin ? ends & ~bit : ends | bit;
        }
    }

    /** Reads a row of letters as a condition or as a law, letter by letter. */
    private static final class Reader {
        private static final int FIRST = 0;
        private static final int ATOM = 1;
        private static final int NOT = 2;
        private static final int NAMED = 3;
        private static final int ABOVE = 4;
        private static final int BOUNDED = 5;
        private static final int EFFECT = 6;
        private static final int BEGINS = 7;
        private static final int ENDS = 8;
        private static final int STILLS = 9;
        private static final int DONE = 10;
        private static final int STUCK = 11;

        private final World world;
        final Law law = new Law();
        private boolean asLaw = false;
        private boolean newAll = true;
        private boolean negated = false;
        private int named = 0;
        private int bound = NONE;

        Reader(World world) {
            this.world = world;
        }

        /** The fault of the text; NONE if it is well, and then law holds what it says. */
        int read(Shelf text, boolean lawWanted) {
            law.clear();
            asLaw = lawWanted;
            newAll = true;
            int state = asLaw ? FIRST : ATOM;
            for (int i = 0; i < text.size; i++) {
                state = after(state, text.intAt(i));
                if (state == STUCK) {
                    return i;
                }
            }
            if (asLaw) {
                return state == DONE ? NONE : text.size;
            }
            if (state != NAMED && state != BOUNDED) {
                return text.size;
            }
            closeAtom();
            return NONE;
        }

        private int after(int state, int letter) {
            switch (state) {
                case FIRST:
                    return letter == ':' ? EFFECT : afterAtomBegan(letter);
                case ATOM:
                    return afterAtomBegan(letter);
                case NOT:
                    return afterName(letter, true);
                case NAMED:
                    return letter == '>' && kindOf(named) == RUNNING ? ABOVE : afterAtom(letter);
                case ABOVE:
                    return afterBound(letter);
                case BOUNDED:
                    return afterAtom(letter);
                case BEGINS:
                    return afterKept(letter, true);
                case ENDS:
                    return afterKept(letter, false);
                case STILLS:
                    return afterStilled(letter);
                default:
                    return afterEffectBegan(letter);
            }
        }

        private int afterAtomBegan(int letter) {
            return letter == '!' ? NOT : afterName(letter, false);
        }

        private int afterName(int letter, boolean not) {
            int thing = letter - '0';
            if (kindOf(thing) == NONE) {
                return STUCK;
            }
            named = thing;
            negated = not;
            bound = NONE;
            return NAMED;
        }

        private int afterBound(int letter) {
            if (letter < '0' || letter > '0' + MOST_VALUE) {
                return STUCK;
            }
            bound = letter - '0';
            return BOUNDED;
        }

        private int afterAtom(int letter) {
            if (letter != '&' && letter != '|' && (letter != ':' || !asLaw)) {
                return STUCK;
            }
            closeAtom();
            newAll = letter == '|';
            return letter == ':' ? EFFECT : ATOM;
        }

        private void closeAtom() {
            if (newAll) {
                law.condition.openAll();
            }
            if (bound == NONE) {
                law.condition.addSo(named, negated);
            } else {
                law.condition.addAbove(bound, negated);
            }
        }

        private int afterEffectBegan(int letter) {
            switch (letter) {
                case 'b':
                    return BEGINS;
                case 'e':
                    return ENDS;
                case 'z':
                    return STILLS;
                default:
                    return STUCK;
            }
        }

        private int afterKept(int letter, boolean begin) {
            int thing = letter - '0';
            if (kindOf(thing) != KEPT) {
                return STUCK;
            }
            law.addEffect(world.places[thing], begin);
            return DONE;
        }

        private int afterStilled(int letter) {
            if (kindOf(letter - '0') != RUNNING) {
                return STUCK;
            }
            law.stills = true;
            return DONE;
        }

        /** The kind of a thing; NONE if there is no such one. */
        private int kindOf(int thing) {
            return thing >= 0 && thing < world.things ? world.kinds[thing] : NONE;
        }
    }

    /** All that an image takes: things, happenings, pieces and weights. */
    private static final class World {
        int things = 0;
        int happenings = 0;
        int pieces = 0;
        /** Bits of the pieces that are put by. */
        int putBy = 0;
        final int[] kinds = new int[MOST_THINGS];
        /** The place of each thing among those of its kind. */
        final int[] places = new int[MOST_THINGS];
        final Condition[] conditions = new Condition[MOST_THINGS];
        final Law[] laws = new Law[MOST_HAPPENINGS];
        final Seen[] told = new Seen[MOST_PIECES];
        final int[] weights = new int[MOUTHS];

        World() {
            for (int i = 0; i < MOST_THINGS; i++) {
                conditions[i] = new Condition();
            }
            for (int i = 0; i < MOST_HAPPENINGS; i++) {
                laws[i] = new Law();
            }
            Arrays.fill(weights, 1);
        }

        /** Pieces never change, so that two worlds may share them. */
        void become(World other) {
            things = other.things;
            happenings = other.happenings;
            pieces = other.pieces;
            putBy = other.putBy;
            for (int i = 0; i < MOST_THINGS; i++) {
                kinds[i] = other.kinds[i];
                places[i] = other.places[i];
                conditions[i].become(other.conditions[i]);
            }
            for (int i = 0; i < MOST_HAPPENINGS; i++) {
                laws[i].become(other.laws[i]);
            }
            for (int i = 0; i < MOST_PIECES; i++) {
                told[i] = other.told[i];
            }
            System.arraycopy(other.weights, 0, weights, 0, MOUTHS);
        }

        int countOf(int kind) {
            int count = 0;
            for (int i = 0; i < things; i++) {
                if (kinds[i] == kind) {
                    count++;
                }
            }
            return count;
        }

        boolean hasRoomFor(int kind) {
            return things < MOST_THINGS && countOf(kind) < mostOf(kind);
        }

        private static int mostOf(int kind) {
            switch (kind) {
                case FREE:
                    return 2;
                case KEPT:
                    return 5;
                case BY:
                    return 3;
                default:
                    return 1;
            }
        }

        int addThing(int kind, Condition condition) {
            if (!hasRoomFor(kind)) {
                return NONE;
            }
            int thing = things;
            places[thing] = countOf(kind);
            kinds[thing] = kind;
            if (kind == BY || kind == RUNNING) {
                conditions[thing].become(condition);
            }
            things++;
            return thing;
        }

        int addHappening(Law law, int price, boolean strict) {
            if (happenings >= MOST_HAPPENINGS) {
                return NONE;
            }
            int happening = happenings;
            laws[happening].become(law);
            laws[happening].price = price;
            laws[happening].strict = strict;
            happenings++;
            return happening;
        }

        boolean hasRoomForPiece(int kind) {
            if (pieces >= MOST_PIECES) {
                return false;
            }
            int spans = 0;
            for (int i = 0; i < pieces; i++) {
                Seen piece = told[i];
                if (piece != null && piece.kind == SPAN) {
                    spans++;
                }
            }
            return kind != SPAN || spans < MOST_SPANS;
        }

        int addPiece(int kind, int what, int p, int q, int v, int mouth) {
            if (pieces >= MOST_PIECES) {
                return NONE;
            }
            int piece = pieces;
            switch (kind) {
                case SPAN:
                    told[piece] = new Span(piece, what, p, q, mouth);
                    break;
                case WAS:
                    told[piece] = new Was(piece, what, p, q, v, mouth);
                    break;
                case NEVER:
                    told[piece] = new Never(piece, what, p, q, mouth);
                    break;
                default:
                    told[piece] = new Seen(piece, what, p, mouth);
                    break;
            }
            pieces++;
            return piece;
        }

        /** The piece of a number; null if there is none. */
        Seen pieceAt(int piece) {
            return piece >= 0 && piece < pieces ? told[piece] : null;
        }

        boolean isPutBy(int piece) {
            return (putBy >> piece & 1) != 0;
        }

        /** The set of all pieces that are not put by, as bits. */
        int inForce() {
            return (1 << pieces) - 1 & ~putBy;
        }

        int toldBy(int mouth, int lastHour) {
            int set = 0;
            for (int i = 0; i < pieces; i++) {
                Seen piece = told[i];
                if (piece != null && piece.mouth == mouth && piece.q <= lastHour) {
                    set |= 1 << i;
                }
            }
            return set & inForce();
        }

        int weightOf(int piece) {
            Seen of = pieceAt(piece);
            return of == null ? 0 : weights[of.mouth];
        }

        boolean isSeenIn(int hour) {
            for (int i = 0; i < pieces; i++) {
                Seen piece = told[i];
                if (piece != null && piece.kind == SEEN && piece.p == hour && !isPutBy(i)) {
                    return true;
                }
            }
            return false;
        }

        int freeLooks() {
            return 1 << countOf(FREE);
        }

        int lowStates() {
            return (countOf(RUNNING) == 0 ? 1 : MOST_VALUE + 1) << countOf(KEPT);
        }

        /** By look what stands in it; by look and choice the state (but SPAN bits) to follow. */
        void fillTables(int[] truth, int[] nexts) {
            int looks = freeLooks();
            int lows = lowStates();
            int keptBits = countOf(KEPT);
            for (int free = 0; free < looks; free++) {
                for (int low = 0; low < lows; low++) {
                    int look = free << TOP_SHIFT | low;
                    int run = low >> keptBits;
                    int kept = low & (1 << keptBits) - 1;
                    int stands = truthOf(free, kept, run);
                    truth[look] = stands;
                    for (int choice = 0; choice < CHOICES; choice++) {
                        nexts[look * CHOICES + choice] = nextOf(kept, run, stands, choice);
                    }
                }
            }
        }

        /** Which things are so, and which conditions hold, in an hour that looks so. */
        private int truthOf(int free, int kept, int run) {
            int so = 0;
            int all = 0;
            for (int i = 0; i < things; i++) {
                if (isThingSo(i, so, free, kept, run)) {
                    so |= 1 << i;
                }
            }
            for (int i = 0; i < things; i++) {
                if (kinds[i] == RUNNING && conditions[i].isMet(so, run)) {
                    all = 1 << RUNS_BIT;
                }
            }
            for (int i = 0; i < happenings; i++) {
                if (laws[i].condition.isMet(so, run)) {
                    all |= 1 << LAW_BITS + i;
                }
            }
            return all | so;
        }

        private boolean isThingSo(int thing, int earlier, int free, int kept, int run) {
            switch (kinds[thing]) {
                case FREE:
                    return (free >> places[thing] & 1) != 0;
                case KEPT:
                    return (kept >> places[thing] & 1) != 0;
                case BY:
                    return conditions[thing].isMet(earlier, run);
                default:
                    return run > 0;
            }
        }

        /** The state (but SPAN bits) of the next hour; NONE if the choice can't be. */
        private int nextOf(int keptNow, int runNow, int truth, int choice) {
            int kept = keptNow;
            int run = runNow;
            boolean stilled = false;
            if (choice >= 0 && choice < happenings) {
                Law law = laws[choice];
                boolean met = (truth >> LAW_BITS + choice & 1) != 0;
                if (!met && law.strict) {
                    return NONE;
                }
                if (met) {
                    kept = kept & ~law.ends | law.begins;
                    stilled = law.stills;
                }
            }
            if (stilled) {
                run = 0;
            } else if ((truth >> RUNS_BIT & 1) != 0 && run < MOST_VALUE) {
                run++;
            }
            return run << countOf(KEPT) | kept;
        }
    }

    /** A piece SEEN, and the kind above all the others. In a trace element 0 counts the bodies. */
    private static class Seen {
        static final int TRACED = 20;

        final int number;
        final int kind;
        final int what;
        final int p;
        final int q;
        final int v;
        final int mouth;

        Seen(int number, int what, int hour, int mouth) {
            this(number, SEEN, what, hour, hour, 0, mouth);
        }

        Seen(int number, int kind, int what, int p, int q, int v, int mouth) {
            this.number = number;
            this.kind = kind;
            this.what = what;
            this.p = p;
            this.q = q;
            this.v = v;
            this.mouth = mouth;
        }

        static void begin(int body, int[] trace) {
            int at = trace[0] + 1;
            if (at > 0 && at < trace.length) {
                trace[at] = body;
            }
            trace[0] = at;
        }

        int tells(int x, int[] trace) {
            begin(10, trace);
            return x + p;
        }

        int binds(int x, int[] trace) {
            begin(11, trace);
            return tells(x, trace) * 2;
        }

        int weighs(int x, int[] trace) {
            begin(12, trace);
            int bound = binds(x, trace);
            return bound ^ tells(x - number, trace);
        }
    }

    /** A piece SPAN. */
    private static class Span extends Seen {
        Span(int number, int what, int p, int q, int mouth) {
            super(number, SPAN, what, p, q, 0, mouth);
        }

        Span(int number, int kind, int what, int p, int q, int mouth) {
            super(number, kind, what, p, q, 0, mouth);
        }

        int binds(int x, int[] trace) {
            begin(20, trace);
            return super.binds(x, trace) + number;
        }
    }

    /** A piece WAS. */
    private static final class Was extends Seen {
        Was(int number, int what, int p, int q, int v, int mouth) {
            super(number, WAS, what, p, q, v, mouth);
        }

        int tells(int x, int[] trace) {
            begin(30, trace);
            return super.tells(x, trace) * 3;
        }

        int weighs(int x, int[] trace) {
            begin(31, trace);
            return super.weighs(x, trace) - p;
        }
    }

    /** A piece NEVER. */
    private static final class Never extends Span {
        Never(int number, int what, int p, int q, int mouth) {
            super(number, NEVER, what, p, q, mouth);
        }

        int binds(int x, int[] trace) {
            begin(40, trace);
            return -super.binds(x, trace);
        }

        int tells(int x, int[] trace) {
            begin(41, trace);
            return super.tells(x + 1, trace);
        }
    }

    /** What a set of pieces asks of each hour. */
    private static final class Asked {
        private final World world;
        private final int[] so = new int[HOURS];
        private final int[] notSo = new int[HOURS];
        /** Bits of the RUNNING thing's values, of choices, and of happenings told by SEEN. */
        private final int[] values = new int[HOURS];
        private final int[] choices = new int[HOURS];
        private final int[] told = new int[HOURS];
        /** Bits of SPAN pieces: which a choice in an hour brings; which are due by an hour's end. */
        private final int[] brought = new int[HOURS * CHOICES];
        private final int[] due = new int[HOURS];
        int spans = 0;

        Asked(World world) {
            this.world = world;
        }

        void gather(int set) {
            Arrays.fill(so, 0);
            Arrays.fill(notSo, 0);
            Arrays.fill(values, (1 << MOST_VALUE + 1) - 1);
            Arrays.fill(choices, 1 << IDLE | (1 << world.happenings) - 1);
            Arrays.fill(told, 0);
            Arrays.fill(brought, 0);
            Arrays.fill(due, 0);
            spans = 0;
            for (int i = 0; i < world.pieces; i++) {
                Seen piece = world.told[i];
                if (piece != null && (set >> i & 1) != 0) {
                    add(piece);
                }
            }
        }

        private void add(Seen piece) {
            switch (piece.kind) {
                case SPAN:
                    addSpan(piece);
                    break;
                case WAS:
                    addWas(piece);
                    break;
                case NEVER:
                    for (int h = piece.p; h <= piece.q; h++) {
                        choices[h] &= ~(1 << piece.what);
                    }
                    break;
                default:
                    addSeen(piece.what, piece.p);
                    break;
            }
        }

        void addSeen(int happening, int hour) {
            choices[hour] &= 1 << happening;
            told[hour] |= 1 << happening;
        }

        private void addSpan(Seen piece) {
            if (spans >= MOST_SPANS) {
                return;
            }
            int bit = 1 << spans;
            spans++;
            for (int h = piece.p; h <= piece.q; h++) {
                brought[h * CHOICES + piece.what] |= bit;
            }
            due[piece.q] |= bit;
        }

        private void addWas(Seen piece) {
            boolean runs = world.kinds[piece.what] == RUNNING;
            for (int h = piece.p; h <= piece.q; h++) {
                if (runs) {
                    values[h] &= 1 << piece.v;
                } else if (piece.v == 1) {
                    so[h] |= 1 << piece.what;
                } else {
                    notSo[h] |= 1 << piece.what;
                }
            }
        }

        boolean allows(int hour, int truth, int run) {
            return (truth & so[hour]) == so[hour] && (truth & notSo[hour]) == 0
                    && (values[hour] >> run & 1) != 0;
        }

        boolean mayChoose(int hour, int choice) {
            return (choices[hour] >> choice & 1) != 0;
        }

        /** The SPAN bits after a choice in an hour; NONE if one that is due did not come. */
        int flagsAfter(int flags, int hour, int choice) {
            int after = flags | brought[hour * CHOICES + choice];
            return (after & due[hour]) == due[hour] ? after : NONE;
        }

        int costOf(int hour, int choice) {
            boolean free = choice >= world.happenings || (told[hour] >> choice & 1) != 0;
            return free ? 0 : world.laws[choice].price;
        }
    }

    /**
     * The courses of least price by a set of pieces, hour by hour over states. A walk over an hour
     * meets each step from a state, by a look and a choice, to a state of the next hour; what it
     * does there is its pass: finding prices, keeping the best, or tallying hours.
     */
    private static final class Courses {
        private static final int FINDING = 0;
        private static final int KEEPING = 1;
        private static final int TALLYING = 2;
        /** Above any price of a course. */
        private static final int FAR = 1 << 20;
        private static final long MOST_COURSES = 1_000_000_000_000_000_000L;

        private final World world;
        private final int[] truth;
        private final int[] nexts;
        private final Asked asked;
        /** By hour and state: the least price till there; FAR if no course (kept) comes there. */
        private final int[] cost = new int[(HOURS + 1) * STATES];
        /** Of an even and an odd hour's states: ways from there on, or sets of tallied numbers. */
        private final long[] ways = new long[2 * STATES];
        /** The looks that the hour of a walk can have. */
        private final int[] looks = new int[STATES];
        private int keptBits = 0;
        /** How many low parts, and SPAN bits, states can have; below which number all states are. */
        private int lows = 1;
        private int flags = 1;
        private int states = 1;
        private int tallied = 0;

        int cheapest = NONE;
        long count = 0;
        /** By hour over all courses: truth bits that always, that ever stand; choices; values. */
        final int[] always = new int[HOURS];
        final int[] sometimes = new int[HOURS];
        final int[] chosen = new int[HOURS];
        final int[] values = new int[HOURS];

        Courses(World world, int[] truth, int[] nexts) {
            this.world = world;
            this.truth = truth;
            this.nexts = nexts;
            this.asked = new Asked(world);
        }

        /**
         * Finds the least price by a set of pieces and, unless it is NONE, by a happening SEEN in
         * an hour as one piece more; false if there is no course.
         */
        boolean find(int set, int happening, int hour) {
            asked.gather(set);
            if (happening != NONE) {
                asked.addSeen(happening, hour);
            }
            sizeUp();
            clearCosts(0);
            for (int kept = 0; kept < 1 << keptBits; kept++) {
                cost[kept] = 0;
            }
            for (int h = 0; h < HOURS; h++) {
                clearCosts(h + 1);
                walk(FINDING, h);
            }
            int best = FAR;
            for (int i = 0; i < states; i++) {
                best = Math.min(best, cost[HOURS * STATES + i]);
            }
            cheapest = best < FAR ? best : NONE;
            count = 0;
            return best < FAR;
        }

        private void sizeUp() {
            keptBits = world.countOf(KEPT);
            lows = world.lowStates();
            flags = 1 << asked.spans;
            states = (flags - 1 << TOP_SHIFT) + lows;
        }

        /**
         * Keeps the states of courses of least price alone, from the last hour back to a first one,
         * and notes what is so in them. Only from hour 0 on there is a count.
         */
        void keepBest(int first) {
            for (int i = 0; i < states; i++) {
                int at = HOURS * STATES + i;
                boolean best = cost[at] == cheapest;
                cost[at] = best ? cost[at] : FAR;
                ways[layerOf(HOURS) + i] = best ? 1 : 0;
            }
            for (int hour = HOURS - 1; hour >= first; hour--) {
                always[hour] = -1;
                sometimes[hour] = 0;
                chosen[hour] = 0;
                values[hour] = 0;
                clearWays(hour);
                walk(KEEPING, hour);
                dropUnkept(hour);
            }
            for (int i = 0; first == 0 && i < states; i++) {
                count = Math.min(count + ways[layerOf(0) + i], MOST_COURSES);
            }
        }

        private void clearCosts(int hour) {
            for (int i = 0; i < states; i++) {
                cost[hour * STATES + i] = FAR;
            }
        }

        private void clearWays(int hour) {
            int layer = layerOf(hour);
            for (int i = 0; i < states; i++) {
                ways[layer + i] = 0;
            }
        }

        private void dropUnkept(int hour) {
            int layer = layerOf(hour);
            for (int i = 0; i < states; i++) {
                if (ways[layer + i] == 0) {
                    cost[hour * STATES + i] = FAR;
                }
            }
        }

        /** In how many hours from p to q a truth bit stands (or its happening happens): a set. */
        int tally(int bit, int p, int q) {
            if (cheapest == NONE) {
                return 0;
            }
            tallied = bit;
            for (int i = 0; i < states; i++) {
                ways[layerOf(p) + i] = cost[p * STATES + i] < FAR ? 1 : 0;
            }
            for (int hour = p; hour <= q; hour++) {
                clearWays(hour + 1);
                walk(TALLYING, hour);
            }
            long numbers = 0;
            for (int i = 0; i < states; i++) {
                numbers |= ways[layerOf(q + 1) + i];
            }
            return (int) numbers;
        }

        int soOf(int thing, int hour) {
            if (cheapest == NONE) {
                return NONE;
            }
            if (surely(thing, hour)) {
                return 1;
            }
            return (sometimes[hour] >> thing & 1) == 0 ? 0 : 2;
        }

        boolean surely(int bit, int hour) {
            return (always[hour] >> bit & 1) != 0;
        }

        private static int layerOf(int hour) {
            return (hour & 1) * STATES;
        }

        private void walk(int pass, int hour) {
            int count = gatherLooks(pass, hour);
            for (int choice = 0; choice < CHOICES; choice++) {
                if (!asked.mayChoose(hour, choice)) {
                    continue;
                }
                int price = asked.costOf(hour, choice);
                for (int i = 0; i < count; i++) {
                    int next = nexts[looks[i] * CHOICES + choice];
                    if (next != NONE) {
                        meet(pass, hour, looks[i], next, choice, price);
                    }
                }
            }
        }

        /** To find prices, one look is enough of those from which the same steps go on. */
        private int gatherLooks(int pass, int hour) {
            int frees = world.freeLooks();
            int count = 0;
            for (int low = 0; low < lows; low++) {
                if (!isReached(hour, low)) {
                    continue;
                }
                int first = count;
                for (int free = 0; free < frees; free++) {
                    int look = free << TOP_SHIFT | low;
                    if (asked.allows(hour, truth[look], low >> keptBits)
                            && (pass != FINDING || !goesOnAsOne(look, first, count))) {
                        looks[count] = look;
                        count++;
                    }
                }
            }
            return count;
        }

        private boolean goesOnAsOne(int look, int first, int count) {
            for (int i = first; i < count; i++) {
                if (truth[looks[i]] >> LAW_BITS == truth[look] >> LAW_BITS) {
                    return true;
                }
            }
            return false;
        }

        private boolean isReached(int hour, int low) {
            for (int flag = 0; flag < flags; flag++) {
                if (cost[hour * STATES + (flag << TOP_SHIFT | low)] < FAR) {
                    return true;
                }
            }
            return false;
        }

        private void meet(int pass, int hour, int look, int next, int choice, int price) {
            int low = look & LOW_BITS;
            for (int flag = 0; flag < flags; flag++) {
                int from = flag << TOP_SHIFT | low;
                int till = cost[hour * STATES + from] + price;
                int after = till < FAR ? asked.flagsAfter(flag, hour, choice) : NONE;
                if (after == NONE) {
                    continue;
                }
                int to = after << TOP_SHIFT | next;
                int there = (hour + 1) * STATES + to;
                if (pass == FINDING) {
                    cost[there] = Math.min(cost[there], till);
                } else if (cost[there] == till) {
                    if (pass == KEEPING) {
                        keep(hour, from, to, truth[look], choice);
                    } else {
                        addTally(hour, from, to, truth[look], choice);
                    }
                }
            }
        }

        private void keep(int hour, int from, int to, int stands, int choice) {
            int at = layerOf(hour) + from;
            ways[at] = Math.min(ways[at] + ways[layerOf(hour + 1) + to], MOST_COURSES);
            always[hour] &= stands;
            sometimes[hour] |= stands;
            chosen[hour] |= 1 << choice;
            values[hour] |= 1 << ((from & LOW_BITS) >> keptBits);
        }

        private void addTally(int hour, int from, int to, int stands, int choice) {
            boolean counts = tallied < LAW_BITS
                    ? (stands >> tallied & 1) != 0
                    : tallied == LAW_BITS + choice;
            long numbers = ways[layerOf(hour) + from];
            ways[layerOf(hour + 1) + to] |= counts ? numbers << 1 : numbers;
        }
    }
}
