/** Counts answers that are not as due, and writes texts into shelves. */
final class Due {
    private final String test;
    private int asked = 0;
    private int wrong = 0;

    Due(String test) {
        this.test = test;
    }

    void is(String call, long got, long want) {
        asked++;
        if (got != want) {
            wrong++;
            System.out.println(test + ": " + call + " answered " + got + ", due is " + want);
        }
    }

    /** Ends with exit code 1 if an answer was wrong. */
    void end() {
        System.out.println(test + ": " + wrong + " of " + asked + " answers are not as due");
        if (wrong > 0) {
            System.exit(1);
        }
    }

    static void write(SoWhen x, int shelf, String text) {
        x.row(shelf, 0, text.length());
        for (int i = 0; i < text.length(); i++) {
            x.set(shelf, i, text.charAt(i));
        }
    }

    static int thing(SoWhen x, int kind, String text) {
        write(x, 7, text);
        return x.thing(kind, 7);
    }

    static int law(SoWhen x, String text, int price, boolean strict) {
        write(x, 7, text);
        return x.happening(7, price, strict);
    }

    static void ints(SoWhen x, int shelf, int... elements) {
        x.row(shelf, 2, elements.length);
        for (int i = 0; i < elements.length; i++) {
            x.set(shelf, i, elements[i]);
        }
    }
}
