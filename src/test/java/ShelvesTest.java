/** Promises 1 to 8: a new object, shelves, rows, parties shown. */
public final class ShelvesTest {
    private static final int BAD = -1002;
    private static final int OTHER = -1003;
    private static final int NOTHING = -1004;
    private static final Due due = new Due();

    public static void main(String[] args) {
        newObject();
        rows();
        elements();
        narrowing();
        copies();
        copyRefusals();
        shown();
        said();
        due.end("ShelvesTest");
    }

    private static void newObject() {
        RowsOnlyPrimes x = new RowsOnlyPrimes();
        int[] status = {0, 13, 0, 3, 3, 2, 0, 0, 0, 0, 0, 1, 0, 0, 0, 0, 0, 0};
        for (int what = 0; what < status.length; what++) {
            due.is("new status(" + what + ")", x.status(what), status[what]);
        }
        for (int s = 0; s < 8; s++) {
            due.is("new holds(" + s + ")", x.holds(s), -1);
        }
        due.is("new wipe()", x.wipe(), 0);
        due.is("NONE", RowsOnlyPrimes.NONE, -1);
    }

    private static void rows() {
        RowsOnlyPrimes x = new RowsOnlyPrimes();
        for (int sort = 0; sort < 5; sort++) {
            int s = sort;
            due.plain(x, "row(s, sort, 40)", () -> x.row(s, s, 40), 1);
            due.is("holds", x.holds(sort), sort);
        }
        due.plain(x, "row(7, 2, 0)", () -> x.row(7, 2, 0), 1);
        due.is("holds(7)", x.holds(7), 2);
        due.is("status(17)", x.status(17), 6);
        x.set(0, 39, 5);
        due.is("set element", x.element(0, 39), 5);
        x.row(0, 1, 40);
        due.is("a new row has 0", x.element(0, 39), 0);
        due.is("a new row has its sort", x.holds(0), 1);
        due.is("one shelf as before", x.status(17), 6);
        int[][] bad = {{-1, 0, 1}, {8, 0, 1}, {0, -1, 1}, {0, 5, 1}, {0, 0, -1}, {0, 0, 41},
            {Integer.MIN_VALUE, 0, 0}, {0, Integer.MAX_VALUE, 0}, {0, 0, Integer.MIN_VALUE}};
        for (int[] b : bad) {
            due.refused(x, "bad row", () -> x.row(b[0], b[1], b[2]), BAD);
        }
        due.is("a refused row changes nothing", x.holds(0), 1);
    }

    private static void elements() {
        RowsOnlyPrimes x = new RowsOnlyPrimes();
        x.party(0, 0, 1, 0);
        x.row(0, 3, 3);
        x.show(1, 0);
        due.plain(x, "set(0, 2, MAX)", () -> x.set(0, 2, Long.MAX_VALUE), 1);
        due.is("element(0, 2)", x.element(0, 2), Long.MAX_VALUE);
        due.is("element(0, 1)", x.element(0, 1), 0);
        due.is("set(0, 0, MIN)", x.set(0, 0, Long.MIN_VALUE), 1);
        due.is("element(0, 0)", x.element(0, 0), Long.MIN_VALUE);
        due.refused(x, "set(-1, 0, 1)", () -> x.set(-1, 0, 1), BAD);
        due.refused(x, "set(8, 0, 1)", () -> x.set(8, 0, 1), BAD);
        due.refused(x, "set(0, -1, 1)", () -> x.set(0, -1, 1), BAD);
        due.refused(x, "set(0, 3, 1)", () -> x.set(0, 3, 1), BAD);
        due.refused(x, "set(0, MAX, 1)", () -> x.set(0, Integer.MAX_VALUE, 1), BAD);
        due.refused(x, "set(1, -1, 1)", () -> x.set(1, -1, 1), OTHER);
        due.refused(x, "set(2, -1, 1)", () -> x.set(2, -1, 1), NOTHING);
        int[][] none = {{-1, 0}, {8, 0}, {0, -1}, {0, 3}, {0, 40}, {1, 0}, {2, 0}, {0, Integer.MIN_VALUE}};
        for (int[] n : none) {
            due.plain(x, "element of none", () -> (int) x.element(n[0], n[1]), 0);
        }
        x.row(0, 3, 0);
        due.refused(x, "set in an empty row", () -> x.set(0, 0, 1), BAD);
        x.row(0, 3, 3);
        due.is("an element behind the end is forgotten", x.element(0, 2), 0);
        due.is("holds none", x.holds(2) + x.holds(-1) + x.holds(8), -3);
        due.is("holds a party", x.holds(1), 10);
    }

    private static void narrowing() {
        RowsOnlyPrimes x = new RowsOnlyPrimes();
        long[] put = {0x1_8000_8080L, -1, 256, 0x10000L, 0x1_0000_0000L, 127, 128};
        long[][] got = {
            {-128, -1, 0, 0, 0, 127, -128},
            {-32640, -1, 256, 0, 0, 127, 128},
            {0x80008080, -1, 256, 65536, 0, 127, 128},
            {0x1_8000_8080L, -1, 256, 65536, 0x1_0000_0000L, 127, 128},
            {1, 1, 1, 1, 1, 1, 1}};
        for (int sort = 0; sort < 5; sort++) {
            Due.fill(x, 0, sort, put);
            for (int i = 0; i < put.length; i++) {
                due.is("sort " + sort + " element " + i, x.element(0, i), got[sort][i]);
            }
        }
        x.set(0, 0, 0);
        due.is("a boolean that is not so", x.element(0, 0), 0);
    }

    private static void copies() {
        RowsOnlyPrimes x = new RowsOnlyPrimes();
        Due.fill(x, 0, 2, 1, 2, 3, 4, 5);
        x.row(1, 2, 3);
        due.plain(x, "copy(0, 1, 3, 1, 2)", () -> x.copy(0, 1, 3, 1, 2), 2);
        due.is("copied", x.element(1, 0) * 100 + x.element(1, 1) * 10 + x.element(1, 2), 45);
        due.is("copy within, to the right", x.copy(0, 0, 0, 1, 4), 4);
        row(x, 0, 1, 1, 2, 3, 4);
        due.is("copy within, to the left", x.copy(0, 0, 2, 0, 3), 3);
        row(x, 0, 2, 3, 4, 3, 4);
        due.plain(x, "copy nothing from the end", () -> x.copy(0, 1, 5, 3, 0), 0);
        due.plain(x, "copy all", () -> x.copy(0, 0, 0, 0, 5), 5);
        due.plain(x, "copy to the last place", () -> x.copy(0, 1, 0, 2, 1), 1);
        due.is("last place", x.element(1, 2), 2);
    }

    private static void row(RowsOnlyPrimes x, int s, long... want) {
        for (int i = 0; i < want.length; i++) {
            due.is("element " + i, x.element(s, i), want[i]);
        }
    }

    private static void copyRefusals() {
        RowsOnlyPrimes x = new RowsOnlyPrimes();
        x.party(0, 0, 1, 0);
        x.row(0, 0, 4);
        x.row(1, 0, 3);
        x.row(2, 1, 4);
        x.show(3, 0);
        int[][] bad = {{-1, 3, 0, 0, 0}, {3, 8, 0, 0, 0}, {8, 4, 0, 0, 0}, {4, -1, 0, 0, 0},
            {0, 1, -1, 0, 1}, {0, 1, 0, -1, 1}, {0, 1, 0, 0, -1}, {0, 1, 0, 0, 4}, {0, 1, 4, 0, 1},
            {0, 1, 5, 0, 0}, {0, 1, 0, 4, 0}, {0, 1, 0, 3, 1}, {0, 1, 2, 0, 3}, {0, 1, 0, 1, 3},
            {0, 1, Integer.MAX_VALUE, 0, 1}, {0, 1, 0, Integer.MAX_VALUE, 1}, {0, 1, 0, 0, Integer.MAX_VALUE},
            {0, 1, 0, 0, Integer.MIN_VALUE}, {0, 1, Integer.MIN_VALUE, 0, 0}};
        for (int[] b : bad) {
            due.refused(x, "bad copy", () -> x.copy(b[0], b[1], b[2], b[3], b[4]), BAD);
        }
        int[][] other = {{3, 0, 0, 0, 1}, {0, 3, 0, 0, 1}, {3, 3, 0, 0, 1}, {3, 4, -1, 0, 1}, {4, 3, 0, 0, 1},
            {0, 2, 0, 0, 1}, {2, 0, -1, -1, -1}};
        for (int[] o : other) {
            due.refused(x, "copy of others", () -> x.copy(o[0], o[1], o[2], o[3], o[4]), OTHER);
        }
        int[][] nothing = {{4, 0, 0, 0, 1}, {0, 4, -1, 0, 0}, {4, 5, 0, 0, 0}, {4, 4, 0, 0, 0}, {2, 4, 0, 0, 0}};
        for (int[] n : nothing) {
            due.refused(x, "copy of nothing", () -> x.copy(n[0], n[1], n[2], n[3], n[4]), NOTHING);
        }
    }

    private static void shown() {
        RowsOnlyPrimes x = new RowsOnlyPrimes();
        due.refused(x, "show one that isn't there", () -> x.show(0, 0), BAD);
        x.party(0, 0, 1, 0);
        x.party(1, 0, 1, 0);
        due.plain(x, "show(0, 1)", () -> x.show(0, 1), 1);
        due.is("holds(0)", x.holds(0), 11);
        due.refused(x, "show(-1, 0)", () -> x.show(-1, 0), BAD);
        due.refused(x, "show(8, 0)", () -> x.show(8, 0), BAD);
        due.refused(x, "show(0, 2)", () -> x.show(0, 2), BAD);
        due.refused(x, "show(0, -2)", () -> x.show(0, -2), BAD);
        due.refused(x, "show(8, NONE)", () -> x.show(8, -1), BAD);
        due.is("still", x.holds(0), 11);
        due.plain(x, "show(0, NONE)", () -> x.show(0, -1), 1);
        due.is("holds nothing", x.holds(0), -1);
        x.row(0, 0, 1);
        due.is("show over a row", x.show(0, 0), 1);
        due.is("holds(0)", x.holds(0), 10);
        due.is("a row over one", x.row(0, 4, 1) * 10 + x.holds(0), 14);
    }

    private static void said() {
        RowsOnlyPrimes x = Due.bank("party 0 1 4 20;party 1 3 5 12;party 2 2 9 7;party 3 4 6 3;party 4 1 2 30;party 5 2 7 9");
        int[] heads = {4, 8, 9, 5, 3, 9};
        int[] purses = {20, 12, 7, 3, 30, 9};
        // which kinds each of the six may be taken for
        int[] taken = {0b000001, 0b000011, 0b000101, 0b001011, 0b010101, 0b100001};
        for (int p = 0; p < 6; p++) {
            x.show(p, p);
            for (int kind = 0; kind < 6; kind++) {
                int s = p;
                int k = kind;
                if ((taken[p] >> kind & 1) == 1) {
                    due.plain(x, "says(" + p + ", " + k + ")", () -> x.says(s, k), kind == 0 ? purses[p] : heads[p]);
                } else {
                    due.refused(x, "says(" + p + ", " + k + ")", () -> x.says(s, k), OTHER);
                }
            }
        }
        x.row(6, 0, 1);
        due.refused(x, "says of a row", () -> x.says(6, 0), OTHER);
        due.refused(x, "says of nothing", () -> x.says(7, 0), NOTHING);
        due.refused(x, "says(-1, 0)", () -> x.says(-1, 0), BAD);
        due.refused(x, "says(8, 0)", () -> x.says(8, 0), BAD);
        due.refused(x, "says(6, -1)", () -> x.says(6, -1), BAD);
        due.refused(x, "says(7, 6)", () -> x.says(7, 6), BAD);
        x.give(1, 0, 10);
        x.give(1, 1, 11);
        due.is("says the new purse", x.says(1, 0), 11);
        due.is("says the new heads", x.says(1, 1), 13);
        x.tell(2, 0);
        due.is("says by the rule", x.says(1, 1) * 100 + x.says(2, 2), 1002);
    }
}
