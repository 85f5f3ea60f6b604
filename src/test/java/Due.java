/** Counts the answers of one test that are not due, and prints each. */
final class Due {
    private int checked;
    private int wrong;

    void is(String call, long got, long want) {
        checked++;
        if (got != want) {
            wrong++;
            System.out.println(call + " answered " + got + ", due is " + want);
        }
    }

    void same(String call, String got, String want) {
        checked++;
        if (!want.equals(got)) {
            wrong++;
            System.out.println(call + " is '" + got + "', due is '" + want + "'");
        }
    }

    // an object has but 512 calls, so these look at few counts; Edges looks at all

    /** A refused call: its number, and one more of that refusal. */
    void refused(RowsOnlyPrimes x, String call, java.util.function.IntSupplier made, int number) {
        int what = 12 - 1002 - number;
        int ahead = x.status(what);
        is(call, made.getAsInt(), number);
        is(call + ", then status(" + what + ")", x.status(what), ahead + 1);
    }

    /** A call that answers what is due and refuses nothing. */
    void plain(RowsOnlyPrimes x, String call, java.util.function.IntSupplier made, int want) {
        int bad = x.status(12);
        int stuck = x.status(15);
        is(call, made.getAsInt(), want);
        is(call + ": BAD ones", x.status(12), bad);
        is(call + ": STUCK ones", x.status(15), stuck);
    }

    static void feed(RowsOnlyPrimes x, String text) {
        for (int i = 0; i < text.length(); i++) {
            x.feed(text.charAt(i));
        }
    }

    static int read(RowsOnlyPrimes x, String text) {
        feed(x, text);
        return x.bank();
    }

    /** A new bank, read from a text. */
    static RowsOnlyPrimes bank(String text) {
        RowsOnlyPrimes x = new RowsOnlyPrimes();
        if (read(x, text) < 0) {
            throw new IllegalStateException("no bank: " + text);
        }
        return x;
    }

    static void fill(RowsOnlyPrimes x, int shelf, int sort, long... elements) {
        x.row(shelf, sort, elements.length);
        for (int i = 0; i < elements.length; i++) {
            x.set(shelf, i, elements[i]);
        }
    }

    void end(String test) {
        System.out.println(test + ": " + checked + " checked, " + wrong + " wrong");
        if (wrong != 0) {
            System.exit(1);
        }
    }
}
