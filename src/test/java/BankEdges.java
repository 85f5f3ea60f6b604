import java.util.function.Supplier;

/** Edges of promises 1 to 16. */
final class BankEdges {
    private static final int BAD = Edges.BAD;
    private static final int OTHER = Edges.OTHER;
    private static final int NOTHING = Edges.NOTHING;
    private static final int FULL = Edges.FULL;
    private static final int MIN = Edges.MIN;
    private static final int MAX = Edges.MAX;
    private static final Supplier<RowsOnlyPrimes> EMPTY = Edges.empty();
    private static final Supplier<RowsOnlyPrimes> RICH = Edges.rich();
    private static final Supplier<RowsOnlyPrimes> CROWDED = Edges.full();

    private BankEdges() {
    }

    static void run() {
        newObject();
        row();
        set();
        narrowing();
        copy();
        copyRefusals();
        element();
        holds();
        show();
        says();
        party();
        give();
        bind();
        tell();
        feed();
        wipe();
        banksRead();
        wordsRead();
        numbersRead();
        tokens();
        endsTooEarly();
        pairsRead();
        room();
        allOrNothing();
        partyOf();
    }

    private static void newObject() {
        String[] status = {"no PARTIES", "13 SEATS", "LAW 0", "RULE 3", "3 HERMITS", "COST 2", "no MINUTES", "nothing PAID",
            "no CROSSINGS", "nobody OVER", "THE TAPE is empty", "SEED 1", "no BAD", "no OTHER", "no NOTHING", "no STUCK",
            "no FULL", "SHELVES hold NOTHING"};
        int[] want = {0, 13, 0, 3, 3, 2, 0, 0, 0, 0, 0, 1, 0, 0, 0, 0, 0, 0};
        for (int what = 0; what < want.length; what++) {
            int w = what;
            Edges.answers(1, status[what], EMPTY, x -> x.status(w), want[what]);
        }
        for (int s = 0; s < 8; s++) {
            int shelf = s;
            Edges.answers(1, "SHELF " + s + " holds NOTHING", EMPTY, x -> x.holds(shelf), -1);
            Edges.answers(1, "SHELF " + s + " has no element", EMPTY, x -> x.element(shelf, 0), 0);
        }
        Edges.answers(1, "nobody is waiting", EMPTY, x -> x.waiting(), 0);
        Edges.answers(1, "THE TAPE is wiped of nothing", EMPTY, x -> x.wipe(), 0);
        Edges.refused(57, "nothing was kept: back", EMPTY, x -> x.back(), Edges.STUCK);
        RowsOnlyPrimes first = new RowsOnlyPrimes();
        RICH.get();
        CROWDED.get();
        Edges.is(1, "an object knows nothing of the others: PARTIES", first.status(0), 0);
        Edges.is(1, "an object knows nothing of the others: SHELVES", first.status(17), 0);
        Edges.is(1, "an object knows nothing of the others: images", first.back(), Edges.STUCK);
        Edges.is(1, "NONE", RowsOnlyPrimes.NONE, -1);
    }

    private static void row() {
        Edges.changes(2, "least SHELF, SORT and n", EMPTY, x -> x.row(0, 0, 0), 1, "shelf 0 = 0, HELD = 1");
        Edges.changes(2, "greatest SHELF, SORT and n", EMPTY, x -> x.row(7, 4, 40), 1, "shelf 7 = 4, HELD = 1");
        Edges.changes(2, "over a ROW: a new one", RICH, x -> x.row(0, 2, 40), 1, "shelf 0 = 2, elements 0 =");
        Edges.changes(2, "over a ROW of the same SORT and n", RICH, x -> x.row(0, 3, 5), 1, "elements 0 =");
        Edges.changes(2, "over a PARTY", RICH, x -> x.row(2, 1, 1), 1, "shelf 2 = 1");
        Edges.changes(2, "an empty ROW over a full one", CROWDED, x -> x.row(3, 0, 0), 1, "elements 3 =");
        for (int sort = 0; sort < 5; sort++) {
            int so = sort;
            Supplier<RowsOnlyPrimes> one = Edges.after(CROWDED, x -> x.row(6, so, 40));
            Edges.answers(2, "SORT " + sort + ": element 0 at first", one, x -> x.element(6, 0), 0);
            Edges.answers(2, "SORT " + sort + ": element 39 at first", one, x -> x.element(6, 39), 0);
            Edges.changes(2, "SORT " + sort + ": there are 40", one, x -> x.set(6, 39, 1), 1,
                "elements 6 = " + "0 ".repeat(39) + "1");
        }
        Edges.refusedFor(2, "SHELF", RICH, v -> x -> x.row(v, 2, 3), BAD, -1, 8, MIN, MAX);
        Edges.refusedFor(2, "SORT", RICH, v -> x -> x.row(0, v, 3), BAD, -1, 5, 10, MIN, MAX);
        Edges.refusedFor(2, "n", RICH, v -> x -> x.row(0, 3, v), BAD, -1, 41, MIN, MAX);
        Edges.refusedFor(2, "on NOTHING, n", RICH, v -> x -> x.row(4, 3, v), BAD, -1, 41);
    }

    private static void set() {
        Edges.changes(3, "least SHELF and i", RICH, x -> x.set(0, 0, 9), 1, "elements 0 = 9 8 0 -1 1099511627776");
        Edges.changes(3, "greatest i", RICH, x -> x.set(0, 4, 9), 1, "elements 0 = 7 8 0 -1 9");
        Edges.changes(3, "greatest SHELF and i", CROWDED, x -> x.set(7, 39, 9), 1, "elements 7 = " + "0 ".repeat(39) + "9");
        Edges.changes(3, "the same once more", RICH, x -> x.set(0, 0, 7), 1, "");
        Edges.refusedFor(3, "SHELF", RICH, v -> x -> x.set(v, 0, 9), BAD, -1, 8, MIN, MAX);
        Edges.refusedFor(3, "i", RICH, v -> x -> x.set(0, v, 9), BAD, -1, 5, 40, MIN, MAX);
        Edges.refusedFor(3, "of 40, i", CROWDED, v -> x -> x.set(0, v, 9), BAD, -1, 40);
        Edges.refusedFor(3, "in an empty ROW, i", RICH, v -> x -> x.set(5, v, 9), BAD, -1, 0);
        Edges.refusedFor(3, "of a PARTY, i", RICH, v -> x -> x.set(2, v, 9), OTHER, 0, -1, MAX);
        Edges.refusedFor(3, "of NOTHING, i", RICH, v -> x -> x.set(4, v, 9), NOTHING, 0, -1, MAX);
    }

    /** What is put in keeps its lowest bits. */
    private static void narrowing() {
        narrowed(0, "bytes", 127, 127, 128, -128, 255, -1, 256, 0, -128, -128, -129, 127, 257, 1, Long.MAX_VALUE, -1,
            Long.MIN_VALUE, 0);
        narrowed(1, "shorts", 32767, 32767, 32768, -32768, 65535, -1, 65536, 0, -32768, -32768, -32769, 32767, 65537, 1,
            Long.MAX_VALUE, -1, Long.MIN_VALUE, 0);
        narrowed(2, "ints", MAX, MAX, MAX + 1L, MIN, 0xffffffffL, -1, 1L << 32, 0, MIN, MIN, MIN - 1L, MAX, (1L << 32) + 1, 1,
            Long.MAX_VALUE, -1, Long.MIN_VALUE, 0);
        narrowed(3, "longs", MAX + 1L, MAX + 1L, MIN - 1L, MIN - 1L, Long.MAX_VALUE, Long.MAX_VALUE, Long.MIN_VALUE,
            Long.MIN_VALUE, -1, -1, 0, 0);
        narrowed(4, "booleans", 0, 0, 1, 1, 2, 1, -1, 1, 256, 1, 65536, 1, 1L << 32, 1, Long.MIN_VALUE, 1, Long.MAX_VALUE, 1);
    }

    private static void narrowed(int sort, String name, long... pairs) {
        for (int i = 0; i + 1 < pairs.length; i += 2) {
            long put = pairs[i];
            long kept = pairs[i + 1];
            for (long was = 0; was < 2; was++) {
                long ahead = was;
                Edges.changes(3, name + " keep the lowest bits of " + put, Edges.after(EMPTY, x -> x.row(0, sort, 1),
                    x -> x.set(0, 0, ahead)), x -> x.set(0, 0, put), 1, "elements 0 =" + (kept == 0 ? "" : " " + kept));
            }
        }
    }

    /** Shorts 1 to 5, shorts 9 8 7, ints, a PARTY, NOTHING, no shorts, NOTHING, forty shorts. */
    private static final Supplier<RowsOnlyPrimes> ROWS = () -> {
        RowsOnlyPrimes x = Due.bank("party 0 0 1 0");
        Due.fill(x, 0, 1, 1, 2, 3, 4, 5);
        Due.fill(x, 1, 1, 9, 8, 7);
        x.row(2, 2, 4);
        x.show(3, 0);
        x.row(5, 1, 0);
        x.row(7, 1, 40);
        x.set(7, 39, 6);
        return x;
    };

    private static void copied(String edge, int[] told, String elements) {
        Edges.changes(4, edge, ROWS, x -> x.copy(told[0], told[1], told[2], told[3], told[4]), told[4], elements);
    }

    private static void copy() {
        copied("from the first on", new int[] {0, 1, 0, 0, 3}, "elements 1 = 1 2 3");
        copied("the last ones", new int[] {0, 1, 2, 0, 3}, "elements 1 = 3 4 5");
        copied("the last one to the last place", new int[] {0, 1, 4, 2, 1}, "elements 1 = 9 8 5");
        copied("all of one", new int[] {1, 0, 0, 2, 3}, "elements 0 = 1 2 9 8 7");
        copied("to the right, as they were", new int[] {0, 0, 0, 1, 4}, "elements 0 = 1 1 2 3 4");
        copied("to the left, as they were", new int[] {0, 0, 1, 0, 4}, "elements 0 = 2 3 4 5 5");
        copied("a ROW to itself", new int[] {0, 0, 0, 0, 5}, "");
        copied("all forty", new int[] {7, 7, 0, 0, 40}, "");
        copied("the last of forty", new int[] {7, 0, 39, 4, 1}, "elements 0 = 1 2 3 4 6");
        copied("none", new int[] {0, 1, 0, 0, 0}, "");
        copied("none of the last", new int[] {0, 1, 4, 2, 0}, "");
        copied("none behind the last", new int[] {0, 1, 5, 3, 0}, "");
        copied("none between empty ROWS", new int[] {5, 5, 0, 0, 0}, "");
    }

    private static void copyRefused(String edge, int number, int p, int q, int i, int j, int n) {
        Edges.refused(4, edge, ROWS, x -> x.copy(p, q, i, j, n), number);
    }

    private static void copyRefusals() {
        for (int s : new int[] {-1, 8, MIN, MAX}) {
            copyRefused("first SHELF " + s, BAD, s, 0, 0, 0, 1);
            copyRefused("second SHELF " + s, BAD, 0, s, 0, 0, 1);
            copyRefused("ahead of OTHER, first SHELF " + s, BAD, s, 3, 0, 0, 1);
            copyRefused("ahead of OTHER, second SHELF " + s, BAD, 3, s, 0, 0, 1);
            copyRefused("ahead of NOTHING, second SHELF " + s, BAD, 4, s, 0, 0, 1);
        }
        copyRefused("from a PARTY", OTHER, 3, 0, 0, 0, 1);
        copyRefused("to a PARTY", OTHER, 0, 3, 0, 0, 1);
        copyRefused("from a PARTY to itself", OTHER, 3, 3, 0, 0, 0);
        copyRefused("from a PARTY to NOTHING", OTHER, 3, 4, 0, 0, 1);
        copyRefused("from NOTHING to a PARTY", OTHER, 4, 3, 0, 0, 1);
        copyRefused("ROWS of two SORTS", OTHER, 0, 2, 0, 0, 1);
        copyRefused("none, of two SORTS", OTHER, 2, 0, 0, 0, 0);
        copyRefused("an empty ROW and one of another SORT", OTHER, 5, 2, 0, 0, 0);
        copyRefused("ahead of BAD places, two SORTS", OTHER, 0, 2, -1, 99, 41);
        copyRefused("ahead of BAD places, a PARTY", OTHER, 3, 0, -1, 99, 41);
        copyRefused("from NOTHING", NOTHING, 4, 0, 0, 0, 1);
        copyRefused("to NOTHING", NOTHING, 0, 4, 0, 0, 1);
        copyRefused("from NOTHING to NOTHING", NOTHING, 4, 6, 0, 0, 0);
        copyRefused("from NOTHING to itself", NOTHING, 4, 4, 0, 0, 0);
        copyRefused("from NOTHING to any SORT", NOTHING, 4, 2, 0, 0, 1);
        copyRefused("ahead of BAD places", NOTHING, 0, 4, -1, 99, 41);
        int[][] bad = {{0, 1, -1, 0, 1}, {0, 1, 5, 0, 1}, {0, 1, 3, 0, 3}, {0, 1, MAX, 0, 1}, {0, 1, MIN, 0, 1},
            {0, 1, 0, -1, 1}, {0, 1, 0, 3, 1}, {0, 1, 0, 1, 3}, {0, 1, 0, MAX, 1}, {0, 1, 0, MIN, 1},
            {0, 1, 0, 0, -1}, {0, 1, 0, 0, 4}, {1, 0, 0, 0, 4}, {0, 0, 0, 0, 6}, {0, 1, 0, 0, MAX}, {0, 1, 0, 0, MIN},
            {0, 1, 1, 1, MAX}, {0, 1, MAX, MAX, MAX}, {0, 1, 6, 0, 0}, {0, 1, 0, 4, 0}, {0, 1, -1, 0, 0}, {0, 1, 0, -1, 0},
            {5, 5, 0, 0, 1}, {0, 5, 0, 0, 1}, {5, 0, 0, 0, 1}, {7, 7, 0, 1, 40}, {7, 7, 1, 0, 40}, {7, 7, 0, 0, 41}};
        for (int[] b : bad) {
            copyRefused("places " + b[2] + " and " + b[3] + ", n " + b[4], BAD, b[0], b[1], b[2], b[3], b[4]);
        }
    }

    private static void element() {
        Edges.answers(5, "the first", RICH, x -> x.element(0, 0), 7);
        Edges.answers(5, "the last", RICH, x -> x.element(0, 4), 1L << 40);
        Edges.answers(5, "the last of forty in the last SHELF", CROWDED, x -> x.element(7, 39), 8);
        Edges.answersFor(5, "SHELF", RICH, v -> x -> x.element(v, 0), -1, 0, 8, 0, MIN, 0, MAX, 0);
        Edges.answersFor(5, "i", RICH, v -> x -> x.element(0, v), -1, 0, 5, 0, 40, 0, MIN, 0, MAX, 0);
        Edges.answersFor(5, "of forty, i", CROWDED, v -> x -> x.element(7, v), -1, 0, 40, 0);
        Edges.answers(5, "of an empty ROW", RICH, x -> x.element(5, 0), 0);
        Edges.answers(5, "of a PARTY", RICH, x -> x.element(2, 0), 0);
        Edges.answers(5, "of NOTHING", RICH, x -> x.element(4, 0), 0);
        Edges.answers(5, "behind a shorter ROW in its place", Edges.after(CROWDED, x -> x.row(0, 0, 39)), x -> x.element(0, 39), 0);
        Edges.answers(5, "of a ROW that gave way to a PARTY", Edges.after(RICH, x -> x.show(0, 0)), x -> x.element(0, 0), 0);
        Edges.answers(5, "of a ROW that gave way to NOTHING", Edges.after(RICH, x -> x.show(0, -1)), x -> x.element(0, 0), 0);
    }

    private static void holds() {
        for (int sort = 0; sort < 5; sort++) {
            int so = sort;
            Edges.answers(6, "an empty ROW of SORT " + sort, Edges.after(EMPTY, x -> x.row(0, so, 0)), x -> x.holds(0), sort);
            Edges.answers(6, "a ROW of SORT " + sort, Edges.after(EMPTY, x -> x.row(7, so, 40)), x -> x.holds(7), sort);
        }
        Edges.answersFor(6, "SHELF", RICH, v -> x -> x.holds(v), 0, 3, 1, 0, 2, 11, 3, 14, 4, -1, 5, 3, 7, -1);
        Edges.answersFor(6, "no SHELF", RICH, v -> x -> x.holds(v), -1, -1, 8, -1, MIN, -1, MAX, -1);
        Edges.answers(6, "the first PARTY", Edges.after(CROWDED, x -> x.show(0, 0)), x -> x.holds(0), 10);
        Edges.answers(6, "the last PARTY", Edges.after(CROWDED, x -> x.show(7, 7)), x -> x.holds(7), 17);
    }

    private static void show() {
        Edges.changes(7, "least SHELF and PARTY", Edges.bank("party 0 0 1 0"), x -> x.show(0, 0), 1, "shelf 0 = 10, HELD = 1");
        Edges.changes(7, "greatest SHELF and PARTY, over a ROW", CROWDED, x -> x.show(7, 7), 1, "shelf 7 = 17, elements 7 =");
        Edges.changes(7, "one on two SHELVES", RICH, x -> x.show(4, 1), 1, "shelf 4 = 11, HELD = 6");
        Edges.changes(7, "one that is OVER", RICH, x -> x.show(3, 2), 1, "shelf 3 = 12");
        Edges.changes(7, "the same once more", RICH, x -> x.show(2, 1), 1, "");
        Edges.changes(7, "NONE over a PARTY", RICH, x -> x.show(2, -1), 1, "shelf 2 = -1, HELD = 4");
        Edges.changes(7, "NONE over a ROW", RICH, x -> x.show(0, -1), 1, "shelf 0 = -1, elements 0 =, HELD = 4");
        Edges.changes(7, "NONE over NOTHING", RICH, x -> x.show(4, -1), 1, "");
        Edges.changes(7, "NONE where there are no PARTIES", EMPTY, x -> x.show(7, -1), 1, "");
        Edges.refusedFor(7, "SHELF", RICH, v -> x -> x.show(v, 0), BAD, -1, 8, MIN, MAX);
        Edges.refusedFor(7, "with NONE, SHELF", RICH, v -> x -> x.show(v, -1), BAD, -1, 8);
        Edges.refusedFor(7, "PARTY", RICH, v -> x -> x.show(2, v), BAD, -2, 5, 8, MIN, MAX);
        Edges.refusedFor(7, "of eight, PARTY", CROWDED, v -> x -> x.show(0, v), BAD, -2, 8);
        Edges.refused(7, "nobody is there: PARTY 0", EMPTY, x -> x.show(0, 0), BAD);
    }

    private static void says() {
        Supplier<RowsOnlyPrimes> shown = Edges.after(Edges.bank("party 0 1 4 20;party 1 3 5 12;party 2 2 9 7;party 3 4 5 3;party 4 1 2 30;"
            + "party 5 2 7 9"), x -> x.show(0, 0), x -> x.show(1, 1), x -> x.show(2, 2), x -> x.show(3, 3), x -> x.show(4, 4),
            x -> x.show(5, 5));
        // a row for each PARTY, by the KINDS it is taken for; 0: it is of no such KIND
        int[][] said = {{20, 0, 0, 0, 0, 0}, {12, 8, 0, 0, 0, 0}, {7, 0, 9, 0, 0, 0}, {3, 5, 0, 5, 0, 0}, {30, 0, 3, 0, 3, 0},
            {9, 0, 0, 0, 0, 9}};
        for (int p = 0; p < 6; p++) {
            for (int kind = 0; kind < 6; kind++) {
                int s = p;
                int k = kind;
                String edge = "one of KIND " + p + " taken for one of KIND " + kind;
                if (said[p][kind] == 0) {
                    Edges.refused(8, edge, shown, x -> x.says(s, k), OTHER);
                } else {
                    Edges.answers(8, edge, shown, x -> x.says(s, k), said[p][kind]);
                }
            }
        }
        Edges.refusedFor(8, "SHELF", RICH, v -> x -> x.says(v, 0), BAD, -1, 8, MIN, MAX);
        Edges.refusedFor(8, "KIND", RICH, v -> x -> x.says(2, v), BAD, -1, 6, MIN, MAX);
        Edges.refusedFor(8, "ahead of OTHER, KIND", RICH, v -> x -> x.says(0, v), BAD, -1, 6);
        Edges.refusedFor(8, "ahead of NOTHING, KIND", RICH, v -> x -> x.says(4, v), BAD, -1, 6);
        Edges.refusedFor(8, "a ROW, KIND", RICH, v -> x -> x.says(0, v), OTHER, 0, 3, 5);
        Edges.refusedFor(8, "an empty ROW, KIND", RICH, v -> x -> x.says(5, v), OTHER, 0, 5);
        Edges.refusedFor(8, "NOTHING, KIND", RICH, v -> x -> x.says(4, v), NOTHING, 0, 5);
        Edges.answers(8, "least PURSE", Edges.after(shown, x -> x.give(0, 1, 0)), x -> x.says(0, 0), 0);
        Edges.answers(8, "greatest PURSE", Edges.after(shown, x -> x.give(0, 1, 99)), x -> x.says(0, 0), 99);
        Edges.answers(8, "one that came by a call", Edges.after(EMPTY, x -> x.party(4, 2, 5, 9), x -> x.show(0, 0)), x -> x.says(0, 2), 6);
        Edges.answers(8, "HEADS by another SIZE", Edges.after(shown, x -> x.give(1, 0, 10)), x -> x.says(1, 1), 13);
        Edges.answers(8, "HEADS by another RULE", Edges.after(shown, x -> x.tell(2, 0)), x -> x.says(1, 1), 5);
        Edges.answers(8, "HEADS of 0", Edges.after(shown, x -> x.tell(2, 0), x -> Due.read(x, "party 2 0 5 0"), x -> x.show(6, 6)),
            x -> x.says(6, 2), 0);
        Edges.answers(8, "one that is OVER", Edges.after(shown, x -> x.tell(1, 2), x -> x.cross(32)), x -> x.says(5, 5), 9);
    }

    private static void party() {
        Edges.changes(9, "least KIND, a, SIZE, PURSE", EMPTY, x -> x.party(0, 0, 1, 0), 0,
            "PARTIES = 1, party 0 = 0 0 1 0 1 0 0 0");
        Edges.changes(9, "greatest KIND, a, SIZE, PURSE", EMPTY, x -> x.party(5, 9, 40, 99), 0,
            "PARTIES = 1, party 0 = 5 9 40 99 49 0 0 0");
        Edges.changes(9, "not OVER, TIED to nobody", RICH, x -> x.party(3, 4, 5, 6), 5, "PARTIES = 6, party 5 = 3 4 5 6 5 0 0 0");
        for (int n = 1; n < 8; n++) {
            Edges.changes(9, "behind " + n, Edges.bank(Edges.crowd(n)), x -> x.party(4, 9, 40, 1), n,
                "PARTIES = " + (n + 1) + ", party " + n + " = 4 9 40 1 41 0 0 0");
        }
        Edges.refused(9, "a ninth", CROWDED, x -> x.party(0, 0, 1, 0), FULL);
        for (int scene = 0; scene < 2; scene++) {
            Supplier<RowsOnlyPrimes> bank = scene == 0 ? RICH : CROWDED;
            String edge = scene == 0 ? "" : "ahead of FULL, ";
            Edges.refusedFor(9, edge + "KIND", bank, v -> x -> x.party(v, 0, 1, 0), BAD, -1, 6, MIN, MAX);
            Edges.refusedFor(9, edge + "a", bank, v -> x -> x.party(0, v, 1, 0), BAD, -1, 10, MIN, MAX);
            Edges.refusedFor(9, edge + "SIZE", bank, v -> x -> x.party(0, 0, v, 0), BAD, 0, 41, -1, MIN, MAX);
            Edges.refusedFor(9, edge + "PURSE", bank, v -> x -> x.party(0, 0, 1, v), BAD, -1, 100, MIN, MAX);
        }
    }

    private static void give() {
        Edges.changes(10, "least SIZE", RICH, x -> x.give(0, 0, 1), 4, "party 0 = 0 0 1 20 1 0 2 0");
        Edges.changes(10, "greatest SIZE", RICH, x -> x.give(0, 0, 40), 4, "party 0 = 0 0 40 20 40 0 2 0");
        Edges.changes(10, "least PURSE", RICH, x -> x.give(0, 1, 0), 20, "party 0 = 0 0 4 0 4 0 2 0");
        Edges.changes(10, "greatest PURSE", RICH, x -> x.give(0, 1, 99), 20, "party 0 = 0 0 4 99 4 0 2 0");
        Edges.changes(10, "the last one, of REGIMENT", RICH, x -> x.give(4, 0, 40), 2, "party 4 = 5 1 40 3 41 0 0 0");
        Edges.changes(10, "the eighth", CROWDED, x -> x.give(7, 1, 0), 97, "party 7 = 1 7 8 0 15 0 0 0");
        Edges.changes(10, "one that is OVER", RICH, x -> x.give(2, 0, 7), 6, "party 2 = 2 2 7 7 7 1 0 2");
        Edges.changes(10, "the same SIZE", RICH, x -> x.give(0, 0, 4), 4, "");
        Edges.refusedFor(10, "PARTY", RICH, v -> x -> x.give(v, 0, 1), BAD, -1, 5, 8, MIN, MAX);
        Edges.refused(10, "of eight, PARTY 8", CROWDED, x -> x.give(8, 0, 1), BAD);
        Edges.refused(10, "nobody is there: PARTY 0", EMPTY, x -> x.give(0, 0, 1), BAD);
        Edges.refusedFor(10, "what", RICH, v -> x -> x.give(0, v, 1), BAD, -1, 2, MIN, MAX);
        Edges.refusedFor(10, "SIZE", RICH, v -> x -> x.give(0, 0, v), BAD, 0, 41, -1, MIN, MAX);
        Edges.refusedFor(10, "PURSE", RICH, v -> x -> x.give(0, 1, v), BAD, -1, 100, MIN, MAX);
    }

    private static void bind() {
        String[] bonds = {"party 0 = 0 0 1 0 1 0 0 0, party 1 = 0 0 1 0 1 0 0 0", "party 0 = 0 0 1 0 1 0 2 0, party 1 = 0 0 1 0 1 0 1 0",
            "party 0 = 0 0 1 0 1 0 0 2, party 1 = 0 0 1 0 1 0 0 1"};
        for (int was = 0; was < 3; was++) {
            for (int how = 0; how < 3; how++) {
                int ahead = was;
                int then = how;
                Supplier<RowsOnlyPrimes> two = Edges.after(Edges.bank(Edges.crowd(2)), x -> x.bind(0, 1, ahead));
                Edges.changes(11, "from " + was + " to " + how, two, x -> x.bind(0, 1, then), was, bonds[how]);
                Edges.changes(11, "the other way round, from " + was + " to " + how, two, x -> x.bind(1, 0, then), was, bonds[how]);
            }
        }
        Edges.changes(11, "the first and the eighth", CROWDED, x -> x.bind(7, 0, 1), 0,
            "party 0 = 0 0 1 90 1 0 128 0, party 7 = 1 7 8 97 15 0 1 0");
        Edges.changes(11, "others stay as they are", RICH, x -> x.bind(1, 2, 1), 2,
            "party 1 = 1 3 5 12 8 0 5 0, party 2 = 2 2 6 7 6 1 2 0");
        Edges.changes(11, "one more beside them", RICH, x -> x.bind(1, 3, 2), 0,
            "party 1 = 1 3 5 12 8 0 1 12, party 3 = 0 0 7 5 7 0 0 2");
        Edges.refusedFor(11, "PARTY", RICH, v -> x -> x.bind(v, 0, 1), BAD, -1, 5, 8, MIN, MAX);
        Edges.refusedFor(11, "other", RICH, v -> x -> x.bind(0, v, 1), BAD, -1, 5, 8, MIN, MAX);
        Edges.refusedFor(11, "of eight, other", CROWDED, v -> x -> x.bind(0, v, 1), BAD, -1, 8);
        Edges.refusedFor(11, "how", RICH, v -> x -> x.bind(0, 1, v), BAD, -1, 3, MIN, MAX);
        Edges.refusedFor(11, "the same, how", RICH, v -> x -> x.bind(1, 1, v), BAD, 0, 1, 2, 3);
        Edges.refused(11, "the same that isn't there", EMPTY, x -> x.bind(0, 0, 0), BAD);
    }

    private static void tell() {
        String[] names = {"SEATS", "LAW", "RULE", "HERMITS", "COST"};
        int[] least = {1, 0, 0, 0, 0};
        int[] most = {99, 3, 3, 9, 9};
        int[] first = {13, 0, 3, 3, 2};
        for (int what = 0; what < 5; what++) {
            int w = what;
            Edges.changes(12, "least " + names[w], EMPTY, x -> x.tell(w, least[w]), first[w], names[w] + " = " + least[w]);
            Edges.changes(12, "greatest " + names[w], EMPTY, x -> x.tell(w, most[w]), first[w], names[w] + " = " + most[w]);
            Edges.changes(12, "the same " + names[w], EMPTY, x -> x.tell(w, first[w]), first[w], "");
            Edges.changes(12, names[w] + " from the greatest on", Edges.after(EMPTY, x -> x.tell(w, most[w])),
                x -> x.tell(w, least[w]), most[w], names[w] + " = " + least[w]);
            Edges.refusedFor(12, names[w], RICH, v -> x -> x.tell(w, v), BAD, least[w] - 1, most[w] + 1, MIN, MAX);
        }
        Edges.changes(12, "RULE 0 changes HEADS", RICH, x -> x.tell(2, 0), 3,
            "RULE = 0, party 1 = 1 3 5 12 5 0 1 4, party 2 = 2 2 6 7 2 1 0 2");
        Edges.refusedFor(12, "what", RICH, v -> x -> x.tell(v, 1), BAD, -1, 5, MIN, MAX);
    }

    private static void feed() {
        Supplier<RowsOnlyPrimes> almost = Edges.after(EMPTY, x -> {
            Due.feed(x, "law 1;".repeat(40) + "cost    1");
            return 0;
        });
        Edges.changes(13, "the least byte, on an empty TAPE", EMPTY, x -> x.feed(0), 1, "TAPE = 1, tape = -2000 0 2");
        Edges.changes(13, "the greatest byte", EMPTY, x -> x.feed(255), 1, "TAPE = 1, tape = -2000 0 2");
        Edges.changes(13, "the 250th byte", almost, x -> x.feed('9'), 250, "TAPE = 250, tape = -2248 0 2");
        Edges.changes(13, "the 250th byte, a blank", almost, x -> x.feed(' '), 250, "TAPE = 250");
        Edges.changes(13, "behind those that are there", RICH, x -> x.feed(';'), 13, "TAPE = 13, tape = -2013 0 5");
        Edges.refused(13, "the 251st byte", CROWDED, x -> x.feed('9'), FULL);
        Edges.refusedFor(13, "byte", RICH, v -> x -> x.feed(v), BAD, -1, 256, MIN, MAX, 256 + ';');
        Edges.refusedFor(13, "ahead of FULL, byte", CROWDED, v -> x -> x.feed(v), BAD, -1, 256);
    }

    private static void wipe() {
        Edges.answers(14, "an empty TAPE", EMPTY, x -> x.wipe(), 0);
        Edges.changes(14, "one byte", Edges.after(EMPTY, x -> x.feed(0)), x -> x.wipe(), 1, "TAPE = 0, tape = empty");
        Edges.changes(14, "a full TAPE", CROWDED, x -> x.wipe(), 250, "TAPE = 0, tape = empty");
        Edges.changes(14, "and nothing else", RICH, x -> x.wipe(), 12, "TAPE = 0, tape = empty");
        Edges.answers(14, "twice", Edges.after(CROWDED, x -> x.wipe()), x -> x.wipe(), 0);
        Edges.changes(14, "there is room then", Edges.after(CROWDED, x -> x.wipe()), x -> x.feed(';'), 1,
            "TAPE = 1, tape = -2000 0 2");
    }

    // ---- promise 15

    /** Two alike (SIZE 1), and a text on THE TAPE that is a BANK. */
    private static void reads(String text, int statements, String differences) {
        Edges.changes(15, "'" + text + "'", written(two(), text), x -> x.bank(), statements,
            "TAPE = 0, tape = empty" + (differences.isEmpty() ? "" : ", ") + differences);
    }

    private static void faulty(String text, int fault) {
        faulty(two(), text, fault);
    }

    private static void faulty(Supplier<RowsOnlyPrimes> scene, String text, int fault) {
        long bad = scene.get().status(12) + 1;
        Edges.changes(15, "'" + text + "'", written(scene, text), x -> x.bank(), -2000 - fault,
            "BAD = " + bad + (text.isEmpty() ? "" : ", TAPE = 0, tape = empty"));
    }

    private static Supplier<RowsOnlyPrimes> two() {
        return Edges.after(EMPTY, x -> x.party(0, 0, 1, 0), x -> x.party(0, 0, 1, 0));
    }

    private static Supplier<RowsOnlyPrimes> written(Supplier<RowsOnlyPrimes> scene, String text) {
        return Edges.after(scene, x -> {
            Due.feed(x, text);
            return 0;
        });
    }

    private static void banksRead() {
        String tied = "party 0 = 0 0 1 0 1 0 2 0, party 1 = 0 0 1 0 1 0 1 0";
        String shunning = "party 0 = 0 0 1 0 1 0 0 2, party 1 = 0 0 1 0 1 0 0 1";
        reads("party 0 0 1 0", 1, "PARTIES = 3, party 2 = 0 0 1 0 1 0 0 0");
        reads("party 5 9 40 99", 1, "PARTIES = 3, party 2 = 5 9 40 99 49 0 0 0");
        reads("tie 0 1", 1, tied);
        reads("tie 1 0", 1, tied);
        reads("shun 0 1", 1, shunning);
        reads("tie 0 1;shun 1 0", 2, shunning);
        reads("shun 0 1;tie 0 1", 2, tied);
        reads("tie 0 1;free 1 0", 2, "");
        reads("shun 0 1;free 0 1", 2, "");
        reads("free 0 1", 1, "");
        reads("seats 1", 1, "SEATS = 1");
        reads("seats 99", 1, "SEATS = 99");
        reads("law 3", 1, "LAW = 3");
        reads("law 3;law 0", 2, "");
        reads("rule 0", 1, "RULE = 0");
        reads("rule 0;rule 3", 2, "");
        reads("hermits 0", 1, "HERMITS = 0");
        reads("hermits 9", 1, "HERMITS = 9");
        reads("cost 0", 1, "COST = 0");
        reads("cost 9", 1, "COST = 9");
        reads("party 1 2 3 4;tie 2 0", 2, "PARTIES = 3, party 0 = 0 0 1 0 1 0 4 0, party 2 = 1 2 3 4 5 0 1 0");
        reads("law1;".repeat(49) + "law1", 50, "LAW = 1");
        reads("law1;".repeat(49) + "law1 ", 50, "LAW = 1");
        Edges.changes(15, "the parties behind those that are there, OVER as they are", written(Edges.after(RICH, x -> x.wipe()),
            "party 3 9 40 0;free 1 2"), x -> x.bank(), 2, "TAPE = 0, tape = empty, PARTIES = 6, party 5 = 3 9 40 0 25 0 0 0, "
            + "party 1 = 1 3 5 12 8 0 1 0, party 2 = 2 2 6 7 6 1 0 0");
    }

    /** Each letter of each word counts, and no letter more. */
    private static void wordsRead() {
        String[] texts = {"party 0 0 1 0", "tie 0 1", "shun 0 1", "free 0 1", "seats 9", "law 1", "rule 1", "hermits 1", "cost 1"};
        for (String text : texts) {
            int letters = text.indexOf(' ');
            String rest = text.substring(letters);
            for (int i = 0; i < letters; i++) {
                char other = text.charAt(i) == 'z' ? 'a' : (char) (text.charAt(i) + 1);
                faulty(text.substring(0, i) + other + text.substring(i + 1), 0);
            }
            faulty(text.substring(0, letters - 1) + rest, 0);
            faulty(text.substring(1), 0);
            faulty(text.substring(0, letters) + "s" + rest, 0);
            faulty("a" + text, 0);
            faulty("cost 1;" + text + ";" + text.substring(1), 8 + text.length());
        }
    }

    /** Numbers that may not be: the place of their first digit. */
    private static void numbersRead() {
        faulty("party 6 0 1 0", 6);
        faulty("party 0 10 1 0", 8);
        faulty("party 0 0 0 0", 10);
        faulty("party 0 0 00 0", 10);
        faulty("party 0 0 41 0", 10);
        faulty("party 0 0 1 100", 12);
        faulty("seats 0", 6);
        faulty("seats 00", 6);
        faulty("seats 100", 6);
        faulty("law 4", 4);
        faulty("rule 4", 5);
        faulty("hermits 10", 8);
        faulty("cost 10", 5);
        faulty("law -1", 4);
        reads("party 05 09 01 00", 1, "PARTIES = 3, party 2 = 5 9 1 0 10 0 0 0");
        reads("law 01", 1, "LAW = 1");
        reads("seats 01", 1, "SEATS = 1");
        faulty("law 001", 4);
        faulty("seats 013", 6);
        faulty("party 000 0 1 0", 6);
        faulty("party 0 000 1 0", 8);
        faulty("party 0 0 001 0", 10);
        faulty("party 0 0 1 000", 12);
        faulty("tie 000 1", 4);
        faulty("tie 0 001", 6);
        faulty("seats 4294967301", 6);
        faulty("seats 18446744073709551621", 6);
        faulty("law " + "0".repeat(246), 4);
        faulty("seats 9 9", 8);
    }

    /** Tokens, each as long as can be; blanks anywhere between; bytes that begin none. */
    private static void tokens() {
        reads("law1", 1, "LAW = 1");
        reads("seats 9;law 1", 2, "SEATS = 9, LAW = 1");
        reads("   law   1   ;   cost   9   ", 2, "LAW = 1, COST = 9");
        reads("law" + " ".repeat(246) + "1", 1, "LAW = 1");
        reads(" ".repeat(246) + "law1", 1, "LAW = 1");
        reads("law1" + " ".repeat(246), 1, "LAW = 1");
        faulty("law12", 3);
        faulty("laws 1", 0);
        faulty("la w 1", 0);
        faulty("l", 0);
        faulty("partytie 0 1", 0);
        faulty("tiee 0 1", 0);
        faulty("tie 01", 6);
        faulty("law 1law 2", 5);
        faulty("law 1 law 2", 6);
        faulty("law 1 2", 6);
        faulty("Law 1", 0);
        faulty("lAw 1", 0);
        faulty("law 1;lAw 1", 6);
        faulty("5", 0);
        faulty("law 1;5", 6);
        faulty(";", 0);
        faulty(" ;", 1);
        faulty(";law 1", 0);
        faulty("law 1;;law 2", 6);
        faulty("law;", 3);
        faulty("law law", 4);
        faulty("party 0 0;", 9);
        faulty("tie 0;1", 5);
        // the bytes on either side of the letters, the digits, the sign and the blank; the least, the greatest
        for (char c : new char[] {'`', '{', '/', ':', '<', 31, 33, 0, 255, 9, 10, 13, 127, 128, 160, 'a' + 128, '0' + 128}) {
            faulty(c + "law 1", 0);
            faulty("law " + c, 4);
            faulty("law" + c + "1", 3);
            faulty("law 1" + c, 5);
            faulty("law 1" + c + "cost 1", 5);
            faulty("law 1;" + c, 6);
        }
    }

    /** THE TAPE's size, if it ends too early. */
    private static void endsTooEarly() {
        for (String text : new String[] {"", " ", "   ", " ".repeat(250), "law", "law ", "law 1;", "law 1; ", "party", "party 0",
            "party 0 0", "party 0 0 1", "party 0 0 1 ", "tie", "tie 0", "tie 0 ", "shun", "shun 1", "free", "free 0", "seats",
            "rule", "hermits", "cost", "law 1;tie", "law1;".repeat(50), "law 1;".repeat(41) + "cost"}) {
            faulty(text, text.length());
        }
    }

    private static void pairsRead() {
        for (String word : new String[] {"tie", "shun", "free"}) {
            int first = word.length() + 1;
            faulty(word + " 0 0", first + 2);
            faulty(word + " 1 01", first + 2);
            faulty(word + " 2 0", first);
            faulty(word + " 0 2", first + 2);
            faulty(word + " 2 2", first);
            faulty(word + " 0 99", first + 2);
            faulty(word + " 2 0;party 0 0 1 0", first);
            faulty(EMPTY, word + " 0 1", first);
            faulty(EMPTY, "party 0 0 1 0;" + word + " 0 1", 14 + first + 2);
        }
        Supplier<RowsOnlyPrimes> eight = Edges.after(CROWDED, x -> x.wipe());
        Edges.changes(15, "the eighth can be tied", written(eight, "tie 7 6"), x -> x.bank(), 1,
            "TAPE = 0, tape = empty, party 6 = 0 6 7 96 7 0 128 0, party 7 = 1 7 8 97 15 0 64 0");
        faulty(eight, "tie 8 0", 4);
        faulty(eight, "tie 0 8", 6);
    }

    /** What there is no room for: its word. */
    private static void room() {
        Supplier<RowsOnlyPrimes> seven = Edges.bank(Edges.crowd(7));
        Supplier<RowsOnlyPrimes> eight = Edges.bank(Edges.crowd(8));
        Edges.changes(15, "an eighth", written(seven, "party 0 0 1 0"), x -> x.bank(), 1,
            "TAPE = 0, tape = empty, PARTIES = 8, party 7 = 0 0 1 0 1 0 0 0");
        faulty(seven, "party 0 0 1 0; party 0 0 1 0", 15);
        faulty(eight, "party 0 0 1 0", 0);
        faulty(eight, "  party 0 0 1 0", 2);
        faulty(eight, "law 1;party 0 0 1 0", 6);
        faulty(eight, "party", 0);
        faulty(eight, "party x", 0);
        faulty(eight, "party 6", 0);
        faulty(eight, "partyy 0 0 1 0", 0);
        Edges.changes(15, "the told ones need no room", written(eight, "law 1"), x -> x.bank(), 1, "TAPE = 0, tape = empty, LAW = 1");
        Edges.changes(15, "eight of one text", written(EMPTY, Edges.crowd(8)), x -> x.bank(), 8, "TAPE = 0, tape = empty, PARTIES = 8, "
            + "party 0 = 0 0 1 0 1 0 0 0, party 1 = 0 0 1 0 1 0 0 0, party 2 = 0 0 1 0 1 0 0 0, party 3 = 0 0 1 0 1 0 0 0, "
            + "party 4 = 0 0 1 0 1 0 0 0, party 5 = 0 0 1 0 1 0 0 0, party 6 = 0 0 1 0 1 0 0 0, party 7 = 0 0 1 0 1 0 0 0");
        faulty(EMPTY, Edges.crowd(9), 8 * 14);
    }

    /** All comes to what there is, or nothing. */
    private static void allOrNothing() {
        faulty("seats 5;law 2;rule 0;hermits 9;cost 0;party 0 0 1 0;tie 0 1;shun 0 2;#", 69);
        faulty("seats 5;law 2;rule 0;hermits 9;cost 0;party 0 0 1 0;tie 0 1;", 60);
        faulty("party 0 0 1 0;party 0 0 1", 25);
        faulty(Edges.after(RICH, x -> x.wipe()), "free 0 1;free 1 2;law 1;party 9", 30);
        Edges.changes(15, "and what there is may be read on then", written(Edges.after(two(), x -> Due.read(x, "law 1;law")), "cost 1"),
            x -> x.bank(), 1, "TAPE = 0, tape = empty, COST = 1");
    }

    private static void partyOf() {
        int[][] want = {{0, 0, 4, 20, 4, 0, 2, 0}, {1, 3, 5, 12, 8, 0, 1, 4}, {2, 2, 6, 7, 6, 1, 0, 2}, {0, 0, 7, 5, 7, 0, 0, 0},
            {5, 1, 2, 3, 3, 0, 0, 0}};
        for (int p = 0; p < want.length; p++) {
            for (int what = 0; what < 8; what++) {
                int who = p;
                int w = what;
                Edges.answers(16, "PARTY " + p + ", what " + what, RICH, x -> x.partyOf(who, w), want[p][what]);
            }
        }
        Edges.answers(16, "the eighth", CROWDED, x -> x.partyOf(7, 3), 97);
        Supplier<RowsOnlyPrimes> all = Edges.after(CROWDED, x -> x.bind(0, 1, 1), x -> x.bind(0, 2, 1), x -> x.bind(0, 3, 1),
            x -> x.bind(0, 4, 1), x -> x.bind(0, 5, 1), x -> x.bind(0, 6, 1), x -> x.bind(0, 7, 1));
        Edges.answers(16, "TIED to all others", all, x -> x.partyOf(0, 6), 254);
        Edges.answers(16, "TIED to the first alone", all, x -> x.partyOf(7, 6), 1);
        Edges.refusedFor(16, "PARTY", RICH, v -> x -> x.partyOf(v, 0), BAD, -1, 5, 8, MIN, MAX);
        Edges.refused(16, "of eight, PARTY 8", CROWDED, x -> x.partyOf(8, 0), BAD);
        Edges.refused(16, "nobody is there: PARTY 0", EMPTY, x -> x.partyOf(0, 0), BAD);
        Edges.refusedFor(16, "what", RICH, v -> x -> x.partyOf(0, v), BAD, -1, 8, MIN, MAX);
    }
}
