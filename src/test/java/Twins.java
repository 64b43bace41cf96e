import java.util.ArrayList;
import java.util.List;
import java.util.function.Consumer;
import java.util.function.ToLongFunction;

/**
 * Two objects that are told the same story; then one alone gets a call. Of a call that is refused
 * all that may differ afterwards is how many of its refusals there were; of a question nothing.
 */
final class Twins {
    /** What a call may change beside the count of its refusals. */
    enum But { NOTHING, FAULT, TRACE }

    private final Due due;
    private final Consumer<SoWhen> story;

    Twins(Due due, Consumer<SoWhen> story) {
        this.due = due;
        this.story = story;
    }

    private SoWhen told() {
        SoWhen x = new SoWhen();
        story.accept(x);
        return x;
    }

    void refused(String call, int number, ToLongFunction<SoWhen> what) {
        refused(call, number, But.NOTHING, what);
    }

    /** A call that came to read a text, so that the FAULT is its own. */
    void faulty(String call, int number, int fault, ToLongFunction<SoWhen> what) {
        SoWhen x = told();
        what.applyAsLong(x);
        due.is(call + ": fault", x.fault(), fault);
        refused(call, number, But.FAULT, what);
    }

    private void refused(String call, int number, But but, ToLongFunction<SoWhen> what) {
        SoWhen tried = told();
        SoWhen plain = told();
        due.is(call, what.applyAsLong(tried), number);
        for (int refusal = -7; refusal <= -1; refusal++) {
            due.is(call + ": refusals " + refusal, tried.status(10 - refusal),
                    plain.status(10 - refusal) + (refusal == number ? 1 : 0));
        }
        same(call, tried, plain, but);
    }

    /** A question, or a call that has nothing to do: it answers, and all is as it was. */
    void unmoved(String call, long answer, ToLongFunction<SoWhen> what) {
        unmoved(call, answer, But.NOTHING, what);
    }

    void unmoved(String call, long answer, But but, ToLongFunction<SoWhen> what) {
        SoWhen tried = told();
        SoWhen plain = told();
        due.is(call, what.applyAsLong(tried), answer);
        for (int refusal = -7; refusal <= -1; refusal++) {
            due.is(call + ": refusals " + refusal, tried.status(10 - refusal),
                    plain.status(10 - refusal));
        }
        same(call, tried, plain, but);
    }

    private void same(String call, SoWhen tried, SoWhen plain, But but) {
        List<Long> got = answers(tried, but);
        List<Long> want = answers(plain, but);
        due.is(call + ": how many answers", got.size(), want.size());
        for (int i = 0; i < got.size() && i < want.size(); i++) {
            due.is(call + ": answer " + i + " of those after it", got.get(i), want.get(i));
        }
    }

    /** Some 350 answers at most, so that with the story no object is asked more than 512. */
    private static List<Long> answers(SoWhen x, But but) {
        List<Long> all = new ArrayList<>();
        all.add(but == But.FAULT ? 0L : x.fault());
        if (but != But.TRACE) {
            for (int i = 0; i < 8; i++) {
                all.add((long) x.trace(i));
            }
            all.add((long) x.status(4));
        }
        addShelves(all, x);
        addCounts(all, x);
        addCourses(all, x);
        addNumbers(all, x);
        all.add((long) x.restore());
        addCounts(all, x);
        addNumbers(all, x);
        all.add((long) x.least());
        return all;
    }

    private static void addShelves(List<Long> all, SoWhen x) {
        for (int s = 0; s < 8; s++) {
            all.add((long) x.holds(s));
            for (int i = 0; s < 6 && i < 4; i++) {
                all.add(x.element(s, i));
            }
        }
    }

    private static void addCounts(List<Long> all, SoWhen x) {
        for (int i = 0; i < 4; i++) {
            all.add((long) x.status(i));
        }
        int last = x.status(2) - 1;
        for (int what = 0; last >= 0 && what < 7; what++) {
            all.add((long) x.pieceOf(0, what));
            all.add((long) x.pieceOf(last, what));
        }
    }

    private static void addCourses(List<Long> all, SoWhen x) {
        all.add((long) x.least());
        all.add(x.courses());
        all.add((long) x.quarrel());
        all.add((long) x.out());
        for (int hour = 0; hour < 12; hour++) {
            all.add((long) x.could(hour));
            for (int thing = 0; thing < 10; thing++) {
                all.add((long) x.is(thing, hour));
            }
        }
    }

    /** Prices and weights are told by setting them. */
    private static void addNumbers(List<Long> all, SoWhen x) {
        for (int i = 0; i < x.status(1); i++) {
            all.add((long) x.price(i, 7 * i));
        }
        for (int mouth = 0; mouth < 6; mouth++) {
            all.add((long) x.weigh(mouth, 5 * mouth));
        }
    }
}
