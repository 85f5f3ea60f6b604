/** Counts the answers of one test that are not due, and prints each. */
final class Due {
    private int checked;
    private int wrong;

    void is(String call, long got, long want) {
        checked++;
        if (got != want) {
            wrong++;
            System.out.println(call + " answered " + got + ", due is " + want);
        }
    }

    /** A refused call: its number, one more of that refusal, and of no other. */
    void refused(RowsOnlyPrimes x, String call, java.util.function.IntSupplier made, int number) {
        int[] ahead = refusals(x);
        is(call, made.getAsInt(), number);
        int[] then = refusals(x);
        for (int i = 0; i < ahead.length; i++) {
            is(call + ", then status(" + (12 + i) + ")", then[i], ahead[i] + (number == -1002 - i ? 1 : 0));
        }
    }

    /** A call that answers what is due and refuses nothing. */
    void plain(RowsOnlyPrimes x, String call, java.util.function.IntSupplier made, int want) {
        int[] ahead = refusals(x);
        is(call, made.getAsInt(), want);
        is(call + ": refusals", java.util.Arrays.equals(ahead, refusals(x)) ? 1 : 0, 1);
    }

    private static int[] refusals(RowsOnlyPrimes x) {
        int[] all = new int[5];
        for (int i = 0; i < all.length; i++) {
            all[i] = x.status(12 + i);
        }
        return all;
    }

    static void feed(RowsOnlyPrimes x, String text) {
        for (int i = 0; i < text.length(); i++) {
            x.feed(text.charAt(i));
        }
    }

    static int read(RowsOnlyPrimes x, String text) {
        feed(x, text);
        return x.bank();
    }

    /** A new bank, read from a text. */
    static RowsOnlyPrimes bank(String text) {
        RowsOnlyPrimes x = new RowsOnlyPrimes();
        if (read(x, text) < 0) {
            throw new IllegalStateException("no bank: " + text);
        }
        return x;
    }

    static void fill(RowsOnlyPrimes x, int shelf, int sort, long... elements) {
        x.row(shelf, sort, elements.length);
        for (int i = 0; i < elements.length; i++) {
            x.set(shelf, i, elements[i]);
        }
    }

    void end(String test) {
        System.out.println(test + ": " + checked + " checked, " + wrong + " wrong");
        if (wrong != 0) {
            System.exit(1);
        }
    }
}
