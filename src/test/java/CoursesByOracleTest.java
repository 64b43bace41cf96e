import java.util.List;

/**
 * Worlds drawn by a fixed sequence of numbers, asked of the program and of the Oracle alike; small
 * ones also course by course. Arguments: the first draw, how many draws.
 */
public final class CoursesByOracleTest {
    private static int wrong = 0;
    private static int told = 0;
    private long seed;
    private Oracle oracle;
    private SoWhen program;
    private StringBuilder story;
    /** Whether there are to be as many things and pieces as may be. */
    private boolean full;

    public static void main(String[] args) {
        int first = args.length > 0 ? Integer.parseInt(args[0]) : 1;
        int draws = args.length > 1 ? Integer.parseInt(args[1]) : 120;
        for (int i = first; i < first + draws; i++) {
            new CoursesByOracleTest().draw(i);
        }
        System.out.println("CoursesByOracleTest: " + wrong + " wrong, " + told
                + " worlds told course by course");
        if (wrong > 0) {
            System.exit(1);
        }
    }

    private int next(int below) {
        seed = seed * 6364136223846793005L + 1442695040888963407L;
        return (int) ((seed >>> 33) % below);
    }

    private void due(String call, long got, long want) {
        if (got != want) {
            wrong++;
            System.out.println(story + call + " answered " + got + ", due is " + want);
        }
    }

    private void draw(int number) {
        seed = number * 7919L;
        next(2);
        oracle = new Oracle();
        program = new SoWhen();
        story = new StringBuilder("draw " + number + ":\n");
        boolean small = number % 2 == 0;
        full = number % 10 == 5;
        drawThings(small);
        drawLaws(small);
        drawPieces(small ? 5 : 8, small);
        askAll();
        if (small) {
            askOneByOne();
        }
        changeAndAsk();
    }

    private void drawThings(boolean small) {
        int[] most = small ? new int[] {1, 2, 1, 1} : new int[] {1 + next(2), full ? 5 : 3, 3, 1};
        int[] count = new int[4];
        int wanted = small ? 2 + next(2) : full ? 40 : 3 + next(5);
        for (int i = 0; i < wanted; i++) {
            int kind = next(4);
            if (count[kind] >= most[kind] || oracle.things.size() == 10 || kind > 1 && oracle.things.isEmpty()) {
                continue;
            }
            String text = kind > 1 ? drawCondition() : "";
            write(0, text);
            due("thing " + kind + " " + text, program.thing(kind, 0), oracle.things.size());
            oracle.addThing(kind, text);
            story.append("  thing ").append(kind).append(' ').append(text).append('\n');
            count[kind]++;
        }
        if (oracle.things.isEmpty()) {
            due("thing 1", program.thing(1, 0), 0);
            oracle.addThing(1, "");
            story.append("  thing 1\n");
        }
    }

    private void write(int shelf, String text) {
        int sort = next(4);
        program.row(shelf, sort, text.length());
        for (int i = 0; i < text.length(); i++) {
            program.set(shelf, i, text.charAt(i) + (sort == 3 ? (long) next(3) << 32 : 0L));
        }
    }

    private String drawCondition() {
        StringBuilder text = new StringBuilder();
        int atoms = 1 + next(3);
        for (int i = 0; i < atoms; i++) {
            if (i > 0) {
                text.append(next(2) == 0 ? '&' : '|');
            }
            if (next(3) == 0) {
                text.append('!');
            }
            int thing = next(oracle.things.size());
            text.append(thing);
            if (oracle.things.get(thing)[0] == 3 && next(3) > 0) {
                text.append('>').append(next(8));
            }
        }
        return text.toString();
    }

    private void drawLaws(boolean small) {
        int wanted = small ? 1 + next(2) : full ? 6 : 1 + next(5);
        for (int i = 0; i < wanted; i++) {
            StringBuilder text = new StringBuilder(next(3) == 0 ? "" : drawCondition());
            text.append(':');
            int effects = 1 + next(3);
            int came = 0;
            for (int e = 0; e < effects * 4 && came < effects; e++) {
                int thing = next(oracle.things.size());
                int kind = oracle.things.get(thing)[0];
                if (kind == 1 || kind == 3) {
                    text.append(kind == 3 ? 'z' : next(2) == 0 ? 'b' : 'e').append(thing);
                    came++;
                }
            }
            if (came == 0) {
                continue;
            }
            int price = next(4) == 0 ? 0 : next(6);
            boolean strict = next(2) == 0;
            write(1, text.toString());
            due("happening " + text, program.happening(1, price, strict), oracle.laws.size());
            oracle.addLaw(text.toString(), price, strict);
            story.append("  law ").append(text).append(' ').append(price).append(' ').append(strict)
                    .append('\n');
        }
    }

    private void drawPieces(int most, boolean small) {
        int wanted = next(full ? 13 : most + 1);
        for (int i = 0; i < wanted; i++) {
            drawPiece();
        }
        for (int t = 0; small && t < oracle.things.size(); t++) {
            if (oracle.things.get(t)[0] == 0) {
                addPiece(2, t, 0, 8, next(2), next(6));
            }
        }
        if (small && oracle.laws.size() > 1) {
            addPiece(3, 1, 3, 11, 0, next(6));
        }
    }

    private void drawPiece() {
        int kind = next(4);
        int p = next(12);
        int q = Math.min(11, p + next(5));
        boolean of = kind == 2;
        int many = of ? oracle.things.size() : oracle.laws.size();
        if (many == 0) {
            return;
        }
        int what = next(many);
        boolean runs = of && oracle.things.get(what)[0] == 3;
        int v = of ? next(runs ? Math.min(8, p + 1) : 2) : 0;
        int spans = 0;
        for (int[] piece : oracle.pieces) {
            spans += piece[0] == 1 ? 1 : 0;
        }
        if (kind == 1 && spans == 2) {
            return;
        }
        addPiece(kind, what, p, kind == 0 || runs ? p : q, v, next(6));
    }

    private void addPiece(int kind, int what, int p, int q, int v, int mouth) {
        if (oracle.pieces.size() == 16) {
            return;
        }
        int answer = kind == 0 ? program.seen(what, p, mouth)
                : kind == 2 ? program.was(what, v, p, q, mouth)
                : program.span(what, p, q, kind == 3, mouth);
        int number = oracle.addPiece(kind, what, p, q, v, mouth);
        story.append("  piece ").append(kind).append(' ').append(what).append(' ').append(p)
                .append(' ').append(q).append(' ').append(v).append(' ').append(mouth).append('\n');
        due("piece", answer, number);
    }

    private void changeAndAsk() {
        if (oracle.laws.isEmpty()) {
            return;
        }
        int mouth = next(6);
        int weight = next(3);
        program.weigh(mouth, weight);
        oracle.weights[mouth] = weight;
        int law = next(oracle.laws.size());
        int price = next(5);
        program.price(law, price);
        oracle.lawNumbers.get(law)[0] = price;
        story.append("  weigh ").append(mouth).append(' ').append(weight).append(" price ")
                .append(law).append(' ').append(price).append('\n');
        if (!oracle.pieces.isEmpty()) {
            int piece = next(oracle.pieces.size());
            due("by", program.by(piece, true), 1);
            oracle.pieces.get(piece)[6] = 1;
            story.append("  by ").append(piece).append('\n');
        }
        drawPiece();
        askAll();
    }

    private void askAll() {
        List<int[]> set = oracle.inForce();
        int best = oracle.cheapest(set);
        due("least()", program.least(), best == Oracle.FAR ? -1 : best);
        due("courses()", program.courses(), oracle.count(set));
        due("quarrel()", program.quarrel(), oracle.quarrel());
        due("out()", program.out(), oracle.out());
        for (int i = 0; i < 6; i++) {
            askOfThing(next(oracle.things.size()), next(12));
        }
        int hour = next(12);
        due("could " + hour, program.could(hour), oracle.could(hour));
        if (!oracle.laws.isEmpty()) {
            int law = next(oracle.laws.size());
            int p = next(12);
            int q = p + next(12 - p);
            due("must " + law + " " + p + " " + q, program.must(law, p, q), oracle.must(law, p, q));
        }
    }

    private void askOfThing(int thing, int hour) {
        String at = " " + thing + " " + hour;
        due("is" + at, program.is(thing, hour), oracle.is(oracle.inForce(), thing, hour));
        due("value" + at, program.value(thing, hour), oracle.value(thing, hour));
        int q = hour + next(12 - hour);
        int mouth = next(6);
        switch (next(6)) {
            case 0:
                due("why" + at, program.why(thing, hour), oracle.why(thing, hour));
                break;
            case 1:
                due("since" + at, program.since(thing, hour), oracle.since(thing, hour));
                break;
            case 2:
                int till = Math.min(q, hour + 2);
                due("plan" + at + " " + till, program.plan(thing, hour, till),
                        oracle.plan(thing, hour, till));
                break;
            case 3:
                due("seemed " + mouth + " " + q + at, program.seemed(mouth, q, thing, hour),
                        oracle.seemed(mouth, q, thing, hour));
                break;
            case 4:
                due("ever" + at + " " + q, program.ever(thing, hour, q),
                        oracle.ever(thing, hour, q));
                break;
            default:
                due("howLong" + at + " " + q, program.howLong(thing, hour, q),
                        oracle.howLong(thing, hour, q));
                break;
        }
    }

    /** The plainest words of the document, over a list of all courses. */
    private void askOneByOne() {
        List<int[][]> all;
        try {
            if (oracle.cheapest(oracle.inForce()) == Oracle.FAR) {
                return;
            }
            all = oracle.allBest(oracle.inForce(), 300_000);
        } catch (Oracle.TooMany e) {
            return;
        }
        told++;
        due("courses() told", program.courses(), all.size());
        int things = oracle.things.size();
        int choices = 0;
        for (int hour = 0; hour < 12; hour++) {
            choices = 0;
            for (int[][] course : all) {
                choices |= 1 << course[hour][things];
            }
            due("could told " + hour, program.could(hour), choices);
            for (int thing = 0; thing < things; thing++) {
                askTold(all, thing, hour);
            }
        }
    }

    private void askTold(List<int[][]> all, int thing, int hour) {
        int so = 0;
        int most = 0;
        int least = 12;
        for (int[][] course : all) {
            so += course[hour][thing] > 0 ? 1 : 0;
            int hours = 0;
            for (int h = 0; h <= hour; h++) {
                hours += course[h][thing] > 0 ? 1 : 0;
            }
            most = Math.max(most, hours);
            least = Math.min(least, hours);
        }
        String at = " told " + thing + " " + hour;
        due("is" + at, program.is(thing, hour), so == 0 ? 0 : so == all.size() ? 1 : 2);
        due("howLong" + at, program.howLong(thing, 0, hour), 100 * most + least);
        due("ever" + at, program.ever(thing, 0, hour), most == 0 ? 0 : least > 0 ? 1 : 2);
    }
}
