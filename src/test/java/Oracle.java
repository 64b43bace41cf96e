import java.util.ArrayList;
import java.util.HashMap;
import java.util.List;
import java.util.Map;

/**
 * The document's COURSES over again, in another way than the program's: laws are read anew from
 * their texts at each step, states are lists in a map, and each question is put by adding a filter
 * of its own and looking whether the least price stays. For small worlds it also tells all courses
 * one by one.
 */
final class Oracle {
    static final int FREE = 0;
    static final int KEPT = 1;
    static final int BY = 2;
    static final int RUNNING = 3;
    static final int SEEN = 0;
    static final int SPAN = 1;
    static final int WAS = 2;
    static final int NEVER = 3;
    static final int IDLE = 6;
    static final int FAR = 1_000_000;

    /** Whether an hour of a course is let through. */
    interface Filter {
        boolean lets(int hour, int[] values, int choice);
    }

    /** What an hour of a course counts for. */
    interface Counted {
        boolean counts(int hour, int[] values, int choice);
    }

    /** All courses that stand told one by one were too many. */
    static final class TooMany extends RuntimeException {
        private static final long serialVersionUID = 1L;
    }

    final List<int[]> things = new ArrayList<>();
    final List<String> texts = new ArrayList<>();
    final List<String> laws = new ArrayList<>();
    final List<int[]> lawNumbers = new ArrayList<>();
    /** KIND, what, p, q, v, mouth, put by. */
    final List<int[]> pieces = new ArrayList<>();
    final int[] weights = {1, 1, 1, 1, 1, 1};

    void addThing(int kind, String text) {
        things.add(new int[] {kind});
        texts.add(text);
    }

    void addLaw(String text, int price, boolean strict) {
        laws.add(text);
        lawNumbers.add(new int[] {price, strict ? 1 : 0});
    }

    int addPiece(int... fields) {
        pieces.add(new int[] {fields[0], fields[1], fields[2], fields[3], fields[4], fields[5], 0});
        return pieces.size() - 1;
    }

    List<int[]> inForce() {
        List<int[]> set = new ArrayList<>();
        for (int[] piece : pieces) {
            if (piece[6] == 0) {
                set.add(piece);
            }
        }
        return set;
    }

    private int kind(int thing) {
        return things.get(thing)[0];
    }

    static boolean holds(String condition, int[] values) {
        if (condition.isEmpty()) {
            return true;
        }
        boolean any = false;
        for (String all : condition.split("\\|")) {
            boolean every = true;
            for (String atom : all.split("&")) {
                boolean not = atom.startsWith("!");
                String rest = not ? atom.substring(1) : atom;
                int value = values[rest.charAt(0) - '0'];
                int bound = rest.length() > 1 ? rest.charAt(2) - '0' : 0;
                every &= (value > bound) != not;
            }
            any |= every;
        }
        return any;
    }

    /** All values that things can have in an hour, given those that carry over (or null). */
    private List<int[]> hours(int[] carried) {
        List<int[]> all = new ArrayList<>();
        all.add(new int[things.size()]);
        for (int t = 0; t < things.size(); t++) {
            List<int[]> next = new ArrayList<>();
            for (int[] values : all) {
                if (kind(t) == FREE || kind(t) == KEPT && carried == null) {
                    int[] so = values.clone();
                    so[t] = 1;
                    next.add(so);
                } else if (kind(t) == KEPT || kind(t) == RUNNING) {
                    values[t] = carried == null ? 0 : carried[t];
                } else {
                    values[t] = holds(texts.get(t), values) ? 1 : 0;
                }
                next.add(values);
            }
            all = next;
        }
        return all;
    }

    /** What carries over to the next hour; null if the choice can't be. */
    private int[] after(int[] values, int choice) {
        int[] next = values.clone();
        boolean[] stilled = new boolean[things.size()];
        if (choice != IDLE) {
            String law = laws.get(choice);
            int colon = law.indexOf(':');
            boolean met = holds(law.substring(0, colon), values);
            if (!met && lawNumbers.get(choice)[1] == 1) {
                return null;
            }
            for (int i = colon + 1; met && i < law.length(); i += 2) {
                int thing = law.charAt(i + 1) - '0';
                stilled[thing] |= law.charAt(i) == 'z';
                next[thing] = law.charAt(i) == 'b' ? 1 : 0;
            }
        }
        for (int t = 0; t < things.size(); t++) {
            if (kind(t) == RUNNING) {
                int more = holds(texts.get(t), values) ? 1 : 0;
                next[t] = stilled[t] ? 0 : Math.min(7, values[t] + more);
            } else if (kind(t) != KEPT) {
                next[t] = 0;
            }
        }
        return next;
    }

    private boolean agrees(List<int[]> set, int hour, int[] values, int choice) {
        for (int[] f : set) {
            boolean there = f[2] <= hour && hour <= f[3];
            if (there && (f[0] == SEEN && choice != f[1] || f[0] == NEVER && choice == f[1]
                    || f[0] == WAS && values[f[1]] != f[4])) {
                return false;
            }
        }
        return true;
    }

    private int cost(List<int[]> set, int hour, int choice) {
        if (choice == IDLE) {
            return 0;
        }
        for (int[] f : set) {
            if (f[0] == SEEN && f[1] == choice && f[2] == hour) {
                return 0;
            }
        }
        return lawNumbers.get(choice)[0];
    }

    private static final class Reached {
        int[] carried;
        int flags;
        int counted;
        int cost;
        double ways;
        long exact;
    }

    private static String key(Reached r) {
        StringBuilder text = new StringBuilder();
        for (int v : r.carried) {
            text.append(v);
        }
        return text.append('/').append(r.flags).append('/').append(r.counted).toString();
    }

    private Map<String, Reached> step(Map<String, Reached> now, int hour, List<int[]> set,
            Filter filter, Counted counted) {
        Map<String, Reached> next = new HashMap<>();
        for (Reached r : now.values()) {
            for (int[] values : hours(r.carried)) {
                for (int choice = 0; choice <= IDLE; choice++) {
                    if (choice >= laws.size() && choice != IDLE) {
                        continue;
                    }
                    if (!agrees(set, hour, values, choice) || !filter.lets(hour, values, choice)) {
                        continue;
                    }
                    int[] carried = after(values, choice);
                    if (carried == null) {
                        continue;
                    }
                    Reached to = new Reached();
                    to.carried = carried;
                    to.flags = r.flags;
                    for (int i = 0; i < set.size(); i++) {
                        int[] f = set.get(i);
                        if (f[0] == SPAN && f[1] == choice && f[2] <= hour && hour <= f[3]) {
                            to.flags |= 1 << i;
                        }
                    }
                    to.counted = r.counted + (counted.counts(hour, values, choice) ? 1 : 0);
                    to.cost = r.cost + cost(set, hour, choice);
                    to.ways = r.ways;
                    to.exact = r.exact;
                    merge(next, to);
                }
            }
        }
        return next;
    }

    private static void merge(Map<String, Reached> into, Reached to) {
        Reached old = into.get(key(to));
        if (old == null || to.cost < old.cost) {
            into.put(key(to), to);
        } else if (to.cost == old.cost) {
            old.ways += to.ways;
            old.exact += to.exact;
        }
    }

    /** The ends of the courses that a filter lets through, told apart by what they counted. */
    private List<Reached> ends(List<int[]> set, Filter filter, Counted counted) {
        Map<String, Reached> now = new HashMap<>();
        for (int[] values : hours(null)) {
            Reached start = new Reached();
            start.carried = values;
            for (int t = 0; t < things.size(); t++) {
                if (kind(t) != KEPT) {
                    start.carried[t] = 0;
                }
            }
            start.ways = 1;
            start.exact = 1;
            now.put(key(start), start);
        }
        for (int hour = 0; hour < 12; hour++) {
            now = step(now, hour, set, filter, counted);
        }
        int due = 0;
        for (int i = 0; i < set.size(); i++) {
            due |= set.get(i)[0] == SPAN ? 1 << i : 0;
        }
        List<Reached> ends = new ArrayList<>();
        for (Reached r : now.values()) {
            if ((r.flags & due) == due) {
                ends.add(r);
            }
        }
        return ends;
    }

    int cheapest(List<int[]> set, Filter filter) {
        int best = FAR;
        for (Reached r : ends(set, filter, (h, v, c) -> false)) {
            best = Math.min(best, r.cost);
        }
        return best;
    }

    int cheapest(List<int[]> set) {
        return cheapest(set, (h, v, c) -> true);
    }

    long count(List<int[]> set) {
        int best = cheapest(set);
        double ways = 0;
        long exact = 0;
        for (Reached r : ends(set, (h, v, c) -> true, (h, v, c) -> false)) {
            if (r.cost == best) {
                ways += r.ways;
                exact += r.exact;
            }
        }
        return ways > 1.0e18 ? 1_000_000_000_000_000_000L : exact;
    }

    /** 1 all best courses, 0 none, 2 some: those that a filter lets through, and the others. */
    private int asked(List<int[]> set, Filter yes, Filter no) {
        int best = cheapest(set);
        if (best == FAR) {
            return -1;
        }
        boolean some = cheapest(set, yes) == best;
        boolean others = cheapest(set, no) == best;
        return some && others ? 2 : some ? 1 : 0;
    }

    int is(List<int[]> set, int thing, int hour) {
        return asked(set, (h, v, c) -> h != hour || v[thing] > 0,
                (h, v, c) -> h != hour || v[thing] == 0);
    }

    int why(int thing, int hour) {
        List<int[]> stay = inForce();
        int is = is(stay, thing, hour);
        if (is != 0 && is != 1) {
            return -1;
        }
        for (int[] piece : inForce()) {
            List<int[]> others = new ArrayList<>(stay);
            others.remove(piece);
            if (is(others, thing, hour) == is) {
                stay = others;
            }
        }
        return bits(stay);
    }

    private int bits(List<int[]> set) {
        int bits = 0;
        for (int i = 0; i < pieces.size(); i++) {
            for (int[] piece : set) {
                bits |= piece == pieces.get(i) ? 1 << i : 0;
            }
        }
        return bits;
    }

    int quarrel() {
        List<int[]> stay = inForce();
        if (cheapest(stay) < FAR) {
            return 0;
        }
        for (int[] piece : inForce()) {
            List<int[]> others = new ArrayList<>(stay);
            others.remove(piece);
            if (cheapest(others) == FAR) {
                stay = others;
            }
        }
        return bits(stay);
    }

    int out() {
        if (cheapest(inForce()) < FAR) {
            return -1;
        }
        int found = -1;
        for (int i = 0; i < pieces.size(); i++) {
            List<int[]> others = new ArrayList<>(inForce());
            if (!others.remove(pieces.get(i)) || cheapest(others) == FAR) {
                continue;
            }
            int weight = weights[pieces.get(i)[5]];
            if (found < 0 || weight < weights[pieces.get(found)[5]]) {
                found = i;
            }
        }
        return found;
    }

    private int[] leastAndMost(Counted counted) {
        int best = cheapest(inForce());
        int[] found = {FAR, -1};
        for (Reached r : ends(inForce(), (h, v, c) -> true, counted)) {
            if (r.cost == best) {
                found[0] = Math.min(found[0], r.counted);
                found[1] = Math.max(found[1], r.counted);
            }
        }
        return found;
    }

    private static int some(int[] found) {
        return found[1] < 0 ? -1 : found[0] > 0 ? 1 : found[1] > 0 ? 2 : 0;
    }

    int must(int happening, int p, int q) {
        return some(leastAndMost((h, v, c) -> p <= h && h <= q && c == happening));
    }

    int ever(int thing, int p, int q) {
        return some(leastAndMost((h, v, c) -> p <= h && h <= q && v[thing] > 0));
    }

    int howLong(int thing, int p, int q) {
        int[] found = leastAndMost((h, v, c) -> p <= h && h <= q && v[thing] > 0);
        return found[1] < 0 ? -1 : 100 * found[1] + found[0];
    }

    int could(int hour) {
        int best = cheapest(inForce());
        int bits = 0;
        for (int choice = 0; choice <= IDLE; choice++) {
            int chosen = choice;
            boolean there = choice == IDLE || choice < laws.size();
            if (there && cheapest(inForce(), (h, v, c) -> h != hour || c == chosen) == best) {
                bits |= 1 << choice;
            }
        }
        return best == FAR ? -1 : bits;
    }

    int value(int thing, int hour) {
        int best = cheapest(inForce());
        if (best == FAR || kind(thing) != RUNNING) {
            return -1;
        }
        int most = -1;
        int least = -1;
        for (int n = 0; n <= 7; n++) {
            int value = n;
            if (cheapest(inForce(), (h, v, c) -> h != hour || v[thing] == value) == best) {
                most = n;
                least = least < 0 ? n : least;
            }
        }
        return 10 * most + least;
    }

    int since(int thing, int hour) {
        if (is(inForce(), thing, hour) != 1) {
            return -1;
        }
        int first = hour;
        while (first > 0 && is(inForce(), thing, first - 1) == 1) {
            first--;
        }
        return first;
    }

    int plan(int thing, int p, int q) {
        int best = cheapest(inForce());
        if (p >= q || best == FAR) {
            return -1;
        }
        for (int hour = p; hour < q; hour++) {
            for (int happening = 0; happening < laws.size(); happening++) {
                if (brings(best, happening, hour, thing, q)) {
                    return 10 * hour + happening;
                }
            }
        }
        return -1;
    }

    private boolean brings(int best, int happening, int hour, int thing, int q) {
        for (int[] f : inForce()) {
            if (f[0] == SEEN && f[2] == hour) {
                return false;
            }
        }
        String law = laws.get(happening);
        String condition = law.substring(0, law.indexOf(':'));
        if (cheapest(inForce(), (h, v, c) -> h != hour || !holds(condition, v)) == best
                && !condition.isEmpty()) {
            return false;
        }
        List<int[]> more = inForce();
        more.add(new int[] {SEEN, happening, hour, hour, 0, 0, 0});
        return is(more, thing, q) == 1;
    }

    int seemed(int mouth, int by, int thing, int hour) {
        List<int[]> set = inForce();
        set.removeIf(f -> f[5] != mouth || f[3] > by);
        return is(set, thing, hour);
    }

    /** All courses of least price, one by one: each hour's values and, last, the choice. */
    List<int[][]> allBest(List<int[]> set, int most) {
        for (int budget = 0; budget < FAR; budget++) {
            List<int[][]> found = new ArrayList<>();
            int[] nodes = {0, most};
            boolean cut = tell(found, new int[12][], 0, null, 0, budget, set, nodes);
            if (!found.isEmpty() || !cut) {
                return found;
            }
        }
        return new ArrayList<>();
    }

    /** True if a course was left for its price. */
    private boolean tell(List<int[][]> found, int[][] course, int hour, int[] carried, int price,
            int budget, List<int[]> set, int[] nodes) {
        if (nodes[0]++ > nodes[1]) {
            throw new TooMany();
        }
        if (hour == 12) {
            if (price == budget && spansCame(course, set)) {
                found.add(course.clone());
            }
            return false;
        }
        boolean cut = false;
        for (int[] values : hours(carried)) {
            for (int choice = 0; choice <= IDLE; choice++) {
                if (choice >= laws.size() && choice != IDLE || !agrees(set, hour, values, choice)) {
                    continue;
                }
                int[] next = after(values, choice);
                if (next == null) {
                    continue;
                }
                int till = price + cost(set, hour, choice);
                if (till > budget) {
                    cut = true;
                    continue;
                }
                course[hour] = java.util.Arrays.copyOf(values, values.length + 1);
                course[hour][values.length] = choice;
                cut |= tell(found, course, hour + 1, next, till, budget, set, nodes);
            }
        }
        return cut;
    }

    private static boolean spansCame(int[][] course, List<int[]> set) {
        for (int[] f : set) {
            boolean came = f[0] != SPAN;
            for (int h = f[2]; h <= f[3]; h++) {
                came |= course[h][course[h].length - 1] == f[1];
            }
            if (!came) {
                return false;
            }
        }
        return true;
    }
}
