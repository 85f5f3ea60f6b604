import java.util.function.Supplier;

/** Edges of promises 31, 50 and 51: told crossings and days; none changes a thing. */
final class ToldEdges {
    private static final int BAD = Edges.BAD;
    private static final int OTHER = Edges.OTHER;
    private static final int NOTHING = Edges.NOTHING;
    private static final int STUCK = Edges.STUCK;
    private static final int MIN = Edges.MIN;
    private static final int MAX = Edges.MAX;
    private static final Supplier<RowsOnlyPrimes> RICH = Edges.rich();
    private static final Supplier<RowsOnlyPrimes> CROWDED = Edges.full();
    private static final Supplier<RowsOnlyPrimes> EIGHT = Edges.bank(Edges.crowd(8) + ";law 2;hermits 0");
    private static final Supplier<RowsOnlyPrimes> ALL_OVER = Edges.after(Edges.bank(Edges.crowd(8) + ";law 1"), x -> x.cross(255));

    private ToldEdges() {
    }

    static void run() {
        crossed();
        crossedByNumbers();
        crossedByBonds();
        crossedByRows();
        judged();
        judgedByBonds();
        refusals();
        fewerElements();
    }

    private static Supplier<RowsOnlyPrimes> told(Supplier<RowsOnlyPrimes> scene, long... row) {
        return Edges.after(scene, x -> {
            Due.fill(x, 7, 3, row);
            return 0;
        });
    }

    // ---- promise 31

    private static void crossed(String edge, Supplier<RowsOnlyPrimes> scene, int ways, int first, long... row) {
        Edges.answers(31, edge + ": ways", told(scene, row), x -> x.crossed(7, row.length, 0), ways);
        Edges.answers(31, edge + ": first GROUP", told(scene, row), x -> x.crossed(7, row.length, 1), first);
    }

    private static void crossed() {
        crossed("by no numbers", RICH, 1, -1);
        crossed("by no numbers, there are no PARTIES", Edges.empty(), 1, -1);
        crossed("by no numbers, all are OVER", ALL_OVER, 1, -1);
        crossed("there are no PARTIES", Edges.empty(), 0, -1, 2);
        crossed("all are OVER", ALL_OVER, 0, -1, 2);
        crossed("not those OVER", RICH, 1, 8, 7);
        crossed("by eight numbers", EIGHT, 40320, 1, 1, 1, 1, 1, 1, 1, 1, 1);
        crossed("by seven of eight", EIGHT, 40320, 1, 1, 1, 1, 1, 1, 1, 1);
        crossed("all eight at once", Edges.after(EIGHT, x -> x.tell(3, 1)), 1, 255, 9);
        crossed("three of eight, the first by rows", EIGHT, 56, 7, 3);
        crossed("three of eight and five", EIGHT, 56, 7, 3, 5);
        crossed("five of eight and three", EIGHT, 56, 31, 5, 3);
        crossed("not all cross", EIGHT, 8, 1, 1);
        crossed("no PARTY twice", Edges.bank("party 0 0 1 0;law 2"), 0, -1, 1, 1);
        crossed("by eight numbers, the last of which none goes by", EIGHT, 0, -1, 1, 1, 1, 1, 1, 1, 1, 3);
        crossed("the first GROUP by the least bits, not by the least HEADS", Edges.bank("party 0 0 5 0;party 0 0 2 0;party 0 0 3 0;hermits 0"),
            2, 1, 5);
        crossed("the first GROUP of a whole way", Edges.bank("party 0 0 2 0;party 0 0 3 0;party 0 0 5 0;hermits 0"), 1, 4, 5, 3);
    }

    private static void crossedByNumbers() {
        Supplier<RowsOnlyPrimes> one = Edges.bank("party 0 0 4 0");
        crossed("no hermits, a number that doesn't go", one, 0, -1, 4);
        crossed("one hermit", one, 1, 1, 5);
        crossed("the most HERMITS", one, 1, 1, 7);
        crossed("more than the most HERMITS", one, 0, -1, 11);
        crossed("fewer than its HEADS", one, 0, -1, 3);
        crossed("without HERMITS", Edges.after(one, x -> x.tell(3, 0)), 0, -1, 5);
        crossed("HERMITS more than HIRE", Edges.bank("party 0 0 3 0;hermits 9"), 1, 1, 11);
        crossed("nine HERMITS", Edges.bank("party 0 0 4 0;hermits 9"), 1, 1, 13);
        crossed("nine of which eight are there", Edges.bank("party 0 0 4 0;hermits 8"), 0, -1, 13);
        crossed("just the SEATS", Edges.bank("party 0 0 13 0"), 1, 1, 13);
        crossed("more than the SEATS", Edges.bank("party 0 0 17 0"), 0, -1, 17);
        crossed("the most SEATS", Edges.bank("party 0 0 40 0;party 0 0 40 0;party 0 0 19 0;seats 99;law 2"), 1, 7, 99);
        crossed("more than the most SEATS", Edges.bank("party 0 0 40 0;party 0 0 40 0;party 0 0 19 0;seats 99;law 1"), 0, -1, 100);
        crossed("HEADS of 0", Edges.bank("party 2 0 5 0;rule 0"), 1, 1, 2);
        crossed("nobody aboard", Edges.bank("party 2 0 5 0;rule 0;law 1"), 0, -1, 0);
        for (long number : new long[] {0, -1, -7, (1L << 32) + 7, Long.MIN_VALUE, Long.MAX_VALUE, Long.MIN_VALUE + 7}) {
            crossed("number " + number, one, 0, -1, number);
            crossed("number 7, then " + number, one, 0, -1, 7, number);
        }
    }

    private static void crossedByBonds() {
        Supplier<RowsOnlyPrimes> tie = Edges.bank("party 0 0 2 0;party 0 0 3 0;tie 0 1;hermits 0");
        crossed("TIED: each alone", tie, 0, -1, 2, 3);
        crossed("TIED: both", tie, 1, 3, 5);
        Supplier<RowsOnlyPrimes> parted = Edges.after(tie, x -> x.cross(3), x -> x.comesBack(0));
        crossed("TIED to one that is OVER", parted, 1, 1, 2);
        Supplier<RowsOnlyPrimes> shun = Edges.bank("party 0 0 2 0;party 0 0 3 0;shun 0 1;hermits 0");
        crossed("SHUNNING: both", shun, 0, -1, 5);
        crossed("SHUNNING: one behind the other", shun, 1, 2, 3, 2);
    }

    private static void crossedByRows() {
        int[][] bySort = {{7, 1}, {7, 1}, {7, 1}, {7, 1}, {7, 0}};
        for (int sort = 0; sort < 5; sort++) {
            int so = sort;
            Supplier<RowsOnlyPrimes> row = Edges.after(Edges.bank("party 0 0 7 0"), x -> x.row(0, so, 40), x -> x.set(0, 0, 7));
            Edges.answers(31, "a ROW of SORT " + sort, row, x -> x.crossed(0, 1, 0), bySort[sort][1]);
        }
        Edges.answers(31, "booleans are 1 and 0", Edges.after(Edges.bank("party 0 0 1 0;law 2"), x -> x.row(0, 4, 1), x -> x.set(0, 0, 77)),
            x -> x.crossed(0, 1, 1), 1);
        Edges.answers(31, "the first n alone", told(EIGHT, 1, 4), x -> x.crossed(7, 1, 0), 8);
        Edges.answers(31, "eight of forty", Edges.after(EIGHT, x -> x.row(0, 0, 40)), x -> x.crossed(0, 8, 0), 0);
        Edges.answers(31, "none of none", Edges.after(EIGHT, x -> x.row(0, 0, 0)), x -> x.crossed(0, 0, 0), 1);
    }

    // ---- promises 50 and 51

    private static void day(String edge, Supplier<RowsOnlyPrimes> scene, int wrong, int over, int hermits, long... groups) {
        Supplier<RowsOnlyPrimes> row = told(scene, groups);
        Edges.answers(50, edge, row, x -> x.judge(7, groups.length), wrong);
        for (int v : new int[] {0, 1}) {
            if (wrong == -1) {
                Edges.answers(51, edge + ", what " + v, row, x -> x.behind(7, groups.length, v), v == 0 ? over : hermits);
            } else {
                Edges.refused(51, edge + ", what " + v, row, x -> x.behind(7, groups.length, v), STUCK);
            }
        }
        Edges.refusedFor(51, edge + ", what", row, v -> x -> x.behind(7, groups.length, v), BAD, -1, 2);
    }

    private static void judged() {
        day("no GROUPS", RICH, -1, 4, 0);
        day("no GROUPS, there are no PARTIES", Edges.empty(), -1, 0, 0);
        day("no GROUPS, all are OVER", ALL_OVER, -1, 255, 0);
        day("there are no PARTIES", Edges.empty(), 0, 0, 0, 1);
        day("nobody of nobody", Edges.empty(), 0, 0, 0, 0);
        day("all are OVER", ALL_OVER, 0, 0, 0, 1);
        day("all cross", RICH, -1, 31, 0, 11, 16);
        day("all cross with hermits", RICH, -1, 31, 2, 3, 24);
        day("not all cross", RICH, -1, 12, 0, 8);
        day("nobody", RICH, 0, 0, 0, 0);
        day("nobody, behind one", RICH, 1, 0, 0, 8, 0);
        day("one that is OVER", RICH, 0, 0, 0, 4);
        day("one that is OVER by then", RICH, 1, 0, 0, 8, 8);
        day("one that is OVER by then, in another GROUP", RICH, 1, 0, 0, 8, 24);
        day("too many", RICH, 1, 0, 0, 16, 27, 8);
        day("the first of two", RICH, 0, 0, 0, 27, 27);
        day("one that isn't there", RICH, 0, 0, 0, 32);
        day("one that isn't there, with one that is", RICH, 0, 0, 0, 40);
        day("all eight", EIGHT, -1, 255, 0, 1, 2, 4, 8, 16, 32, 64, 128);
        day("the ninth", EIGHT, 8, 0, 0, 1, 2, 4, 8, 16, 32, 64, 128, 1);
        day("the eighth", EIGHT, 7, 0, 0, 1, 2, 4, 8, 16, 32, 64, 64);
        day("all eight at once with a hermit", Edges.after(EIGHT, x -> x.tell(3, 1)), -1, 255, 1, 255);
        day("more than eight bits", EIGHT, 1, 0, 0, 1, 256);
        day("the most hermits", Edges.bank("party 0 0 27 0" + ";party 0 0 27 0".repeat(7) + ";law 3;seats 36;hermits 9"), -1, 255, 72,
            1, 2, 4, 8, 16, 32, 64, 128);
        for (long group : new long[] {-1, (1L << 32) + 8, 1L << 32, Long.MIN_VALUE, Long.MAX_VALUE, Long.MIN_VALUE + 8}) {
            day("GROUP " + group, RICH, 0, 0, 0, group);
            day("GROUP 8, then " + group, RICH, 1, 0, 0, 8, group);
        }
        Edges.answers(50, "forty, of which eight go", Edges.after(EIGHT, x -> x.row(7, 1, 40), x -> {
            for (int i = 0; i < 8; i++) {
                x.set(7, i, 1 << i);
            }
            return 0;
        }), x -> x.judge(7, 40), 8);
        Edges.answers(50, "the first n alone", told(RICH, 8, 0), x -> x.judge(7, 1), -1);
        Edges.answers(51, "the first n alone", told(RICH, 8, 0), x -> x.behind(7, 1, 0), 12);
        Edges.answers(50, "a byte keeps the lowest bits of 255", Edges.after(Edges.bank(Edges.crowd(8) + ";law 1"), x -> x.row(7, 0, 1),
            x -> x.set(7, 0, 255)), x -> x.judge(7, 1), 0);
        Edges.answers(50, "booleans are 1 and 0", Edges.after(EIGHT, x -> x.row(7, 4, 1), x -> x.set(7, 0, 77)), x -> x.judge(7, 1), -1);
        Edges.answers(51, "booleans are 1 and 0", Edges.after(EIGHT, x -> x.row(7, 4, 1), x -> x.set(7, 0, 77)), x -> x.behind(7, 1, 0), 1);
    }

    private static void judgedByBonds() {
        Supplier<RowsOnlyPrimes> tie = Edges.bank("party 0 0 2 0;party 0 0 3 0;party 0 0 7 0;tie 0 1;hermits 0");
        day("TIED to one that isn't OVER by then", tie, 0, 0, 0, 1);
        day("TIED: both", tie, -1, 7, 0, 4, 3);
        Supplier<RowsOnlyPrimes> parted = Edges.after(tie, x -> x.cross(3), x -> x.comesBack(0));
        day("TIED to one that is OVER", parted, -1, 3, 0, 1);
        Supplier<RowsOnlyPrimes> shun = Edges.bank("party 0 0 2 0;party 0 0 3 0;shun 0 1;hermits 0");
        day("SHUNNING: both", shun, 0, 0, 0, 3);
        day("SHUNNING: one behind the other", shun, -1, 3, 0, 2, 1);
    }

    // ---- refusals

    /** One of the three calls, by its SHELF and n; the third by what 0. */
    private static Edges.Call call(int promise, int s, int n) {
        if (promise == 31) {
            return x -> x.crossed(s, n, 0);
        }
        return promise == 50 ? x -> x.judge(s, n) : x -> x.behind(s, n, 0);
    }

    private static void refusals() {
        for (int promise : new int[] {31, 50, 51}) {
            int most = promise == 31 ? 8 : 40;
            int[] wrong = {-1, most + 1, MIN, MAX};
            Edges.refusedFor(promise, "SHELF", RICH, s -> call(promise, s, 0), BAD, -1, 8, MIN, MAX);
            Edges.refusedFor(promise, "n", RICH, n -> call(promise, 0, n), BAD, wrong);
            Edges.refusedFor(promise, "of forty, n", CROWDED, n -> call(promise, 0, n), BAD, wrong);
            Edges.refusedFor(promise, "ahead of OTHER, n", RICH, n -> call(promise, 2, n), BAD, wrong);
            Edges.refusedFor(promise, "ahead of NOTHING, n", RICH, n -> call(promise, 4, n), BAD, wrong);
            Edges.refusedFor(promise, "a PARTY, n", RICH, n -> call(promise, 2, n), OTHER, 0, 1, most);
            Edges.refusedFor(promise, "NOTHING, n", RICH, n -> call(promise, 4, n), NOTHING, 0, 1, most);
        }
        for (int s : new int[] {0, 2, 4}) {
            Edges.refusedFor(31, "SHELF " + s + ", what", RICH, v -> x -> x.crossed(s, 0, v), BAD, -1, 2, MIN, MAX);
            Edges.refusedFor(51, "SHELF " + s + ", what", RICH, v -> x -> x.behind(s, 0, v), BAD, -1, 2, MIN, MAX);
        }
    }

    private static void fewerElements() {
        for (int promise : new int[] {31, 50, 51}) {
            Edges.refusedFor(promise, "five elements, n", RICH, n -> call(promise, 0, n), BAD, 6, 7, 8);
            Edges.refusedFor(promise, "no elements, n", RICH, n -> call(promise, 5, n), BAD, 1, 8);
        }
        Edges.answers(31, "five elements, n 5", RICH, x -> x.crossed(0, 5, 0), 0);
        Edges.answers(50, "five elements, n 5", RICH, x -> x.judge(0, 5), 0);
        Edges.answers(50, "forty elements, n 40", CROWDED, x -> x.judge(0, 40), 0);
        Edges.refused(50, "39 elements, n 40", Edges.after(CROWDED, x -> x.row(0, 0, 39)), x -> x.judge(0, 40), BAD);
        Edges.refused(51, "fewer elements, ahead of STUCK", told(RICH, 27), x -> x.behind(7, 2, 0), BAD);
    }
}
