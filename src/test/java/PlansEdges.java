import java.util.function.IntFunction;
import java.util.function.Supplier;

/** Edges of promises 24 to 30, 39, 42 and 43: plans, numbers and bids; none changes a thing. */
final class PlansEdges {
    private static final int BAD = Edges.BAD;
    private static final int STUCK = Edges.STUCK;
    private static final int MIN = Edges.MIN;
    private static final int MAX = Edges.MAX;
    private static final Supplier<RowsOnlyPrimes> EMPTY = Edges.empty();
    private static final Supplier<RowsOnlyPrimes> RICH = Edges.rich();
    private static final Supplier<RowsOnlyPrimes> CROWDED = Edges.full();
    private static final Supplier<RowsOnlyPrimes> ALL_OVER = Edges.after(Edges.bank(Edges.crowd(8) + ";law 1"), x -> x.cross(255));
    // each fills the boat with nine hermits
    private static final Supplier<RowsOnlyPrimes> EIGHT_TIMES = Edges.bank("party 0 0 27 0" + ";party 0 0 27 0".repeat(7)
        + ";law 3;seats 36;hermits 9");
    private static final Supplier<RowsOnlyPrimes> NO_PLAN = Edges.bank("party 0 0 14 0;party 0 0 2 0");
    // A TIED to B, B to C, and A and C SHUN each other
    private static final Supplier<RowsOnlyPrimes> TORN = Edges.bank(Edges.crowd(3) + ";law 2;hermits 1;tie 0 1;tie 1 2;shun 0 2");

    private PlansEdges() {
    }

    static void run() {
        plan();
        planOrder();
        time();
        worth();
        laws();
        sizes();
        rules();
        loosen();
        left();
        ways();
        bids();
        bidRefusals();
    }

    /** Hermits, then the groups. */
    private static void planned(String edge, Supplier<RowsOnlyPrimes> scene, int hermits, int... groups) {
        Edges.answers(24, edge + ": crossings", scene, x -> x.plan(-2), groups.length);
        Edges.answers(24, edge + ": hermits", scene, x -> x.plan(-1), hermits);
        for (int i = 0; i < groups.length; i++) {
            int place = i;
            Edges.answers(24, edge + ": GROUP " + i, scene, x -> x.plan(place), groups[i]);
        }
        Edges.refusedFor(24, edge + ": no i-th", scene, i -> x -> x.plan(i), STUCK, groups.length, groups.length + 1, 256, MAX);
        Edges.refusedFor(24, edge + ": i", scene, i -> x -> x.plan(i), BAD, -3, MIN);
        Edges.answers(42, edge + ": MINUTES", scene, x -> x.time(), 20 * groups.length);
    }

    private static void plan() {
        planned("there are no PARTIES", EMPTY, 0);
        planned("all are OVER", ALL_OVER, 0);
        planned("one crossing", Edges.bank("party 0 0 13 0"), 0, 1);
        planned("one crossing of all eight", Edges.bank(Edges.crowd(8) + ";law 1"), 0, 255);
        planned("the most crossings and hermits", EIGHT_TIMES, 72, 1, 2, 4, 8, 16, 32, 64, 128);
        planned("the eighth alone isn't OVER", Edges.after(ALL_OVER, x -> x.comesBack(7)), 1, 128);
        planned("not those OVER", RICH, 0, 11, 16);
        planned("torn, but the middle one is OVER", Edges.after(TORN, x -> x.bind(0, 2, 0), x -> x.cross(7), x -> x.comesBack(0),
            x -> x.comesBack(2), x -> x.bind(0, 2, 2)), 0, 1, 4);
        planned("HEADS of 0", Edges.bank("party 2 0 5 0;rule 0"), 2, 1);
        for (Supplier<RowsOnlyPrimes> none : java.util.List.of(NO_PLAN, TORN)) {
            Edges.answersFor(24, "there is none, i", none, i -> x -> x.plan(i), -2, -1, -1, -1, 0, -1, 1, -1, MAX, -1);
            Edges.refusedFor(24, "there is none, i", none, i -> x -> x.plan(i), BAD, -3, MIN);
        }
    }

    private static void planOrder() {
        // 3 and 5: 8 and three hermits, or each alone without
        String three = "party 0 0 3 0;party 0 0 5 0;hermits ";
        planned("fewest crossings ahead of least hermits", Edges.bank(three + 3), 3, 3);
        planned("one hermit fewer than the fewest crossings need", Edges.bank(three + 2), 0, 1, 2);
        planned("just the SEATS of the fewest crossings", Edges.bank(three + "3;seats 11"), 3, 3);
        planned("one SEAT fewer", Edges.bank(three + "3;seats 10"), 0, 1, 2);
        // pairs of 3, 5, 7 are 8, 10 and 12: three hermits, one, one
        planned("of the fewest with least hermits, the first by rows", Edges.bank("party 0 0 3 0;party 0 0 5 0;party 0 0 7 0"), 1, 1, 6);
        planned("of those with least hermits alone", Edges.bank("party 0 0 7 0;party 0 0 3 0;party 0 0 5 0;shun 1 2"), 1, 2, 5);
        // 1, 5 and 9, or 7, 5 and 3
        planned("who has gone goes no second time", Edges.bank("party 0 0 1 0;party 0 0 6 0;party 0 0 5 0;party 0 0 3 0;law 2;seats 10;hermits 0"),
            0, 1, 4, 10);
        String pairs = ";law 1;seats 2;hermits 1";
        planned("all alike in pairs", Edges.bank(Edges.crowd(4) + pairs), 0, 3, 12);
        planned("all alike in pairs and one alone", Edges.bank(Edges.crowd(5) + pairs), 1, 1, 6, 24);
        planned("all eight in pairs", Edges.bank(Edges.crowd(8) + pairs), 0, 3, 12, 48, 192);
        planned("the first two SHUN each other", Edges.bank(Edges.crowd(4) + pairs + ";shun 0 1"), 0, 5, 10);
        planned("the first is TIED to the last", Edges.bank(Edges.crowd(4) + pairs + ";tie 0 3"), 0, 6, 9);
    }

    private static void time() {
        Edges.answers(42, "none: NONE", NO_PLAN, x -> x.time(), -1);
        Edges.answers(42, "torn: NONE", TORN, x -> x.time(), -1);
        Edges.answers(42, "not the MINUTES that are gone", RICH, x -> x.time(), 40);
    }

    private static void worth() {
        IntFunction<Edges.Call> call = p -> x -> x.worth(p);
        Edges.answersFor(25, "PARTY", RICH, call, 0, 1, 1, 3, 3, 2, 4, 0);
        Edges.answersFor(25, "the most below 0, PARTY", EIGHT_TIMES, call, 0, -9, 7, -9);
        Edges.answers(25, "the only one", Edges.bank("party 0 0 27 0;law 3;seats 36;hermits 9"), call.apply(0), -9);
        Edges.answers(25, "NONE's number, but no NONE", Edges.bank("party 0 0 12 0"), call.apply(0), -1);
        Edges.answersFor(25, "the most above 0, PARTY", Edges.bank("party 0 0 27 0;party 0 0 9 0;law 3;seats 36;hermits 9"), call, 0, 0, 1, 9);
        Edges.answersFor(25, "there is none with it, PARTY", NO_PLAN, call, 0, -1000, 1, -1000);
        Edges.answersFor(25, "there is none without one, PARTY", Edges.bank("party 0 0 4 0;party 0 0 7 0;hermits 0"), call, 0, 0, 1, -1000);
        Edges.answersFor(25, "torn: without any there is one, but none with it, PARTY", TORN, call, 0, -1000, 1, -1000, 2, -1000);
        Edges.answersFor(25, "as if it were OVER: TIED, PARTY", Edges.bank("party 0 0 3 0;party 0 0 4 0;tie 0 1"), call, 0, 1, 1, 0);
        Edges.refused(25, "it is OVER", RICH, call.apply(2), STUCK);
        Edges.refusedFor(25, "all are OVER, PARTY", ALL_OVER, call, STUCK, 0, 7);
        Edges.refusedFor(25, "PARTY", RICH, call, BAD, -1, 5, 8, 31, MIN, MAX);
        Edges.refusedFor(25, "of eight, PARTY", CROWDED, call, BAD, -1, 8);
        Edges.refusedFor(25, "nobody is there, PARTY", EMPTY, call, BAD, -1, 0);
    }

    private static void laws() {
        IntFunction<Edges.Call> call = law -> x -> x.laws(law);
        Edges.answersFor(26, "of several the least, LAW", RICH, call, 0, 2, 1, 2, 2, 2, 3, 2, -1, 0);
        Edges.answersFor(26, "there are no PARTIES, LAW", EMPTY, call, 0, 0, 3, 0, -1, 0);
        Edges.answersFor(26, "all are OVER, LAW", ALL_OVER, call, 0, 0, 1, 0, 2, 0, 3, 0, -1, 0);
        Edges.answersFor(26, "none has a PLAN, LAW", NO_PLAN, call, 0, -1, 1, -1, 2, -1, 3, -1, -1, 0);
        String two = ";shun 0 1;hermits 0";
        Edges.answersFor(26, "two have one, LAW", Edges.bank("party 0 0 4 0;hermits 0"), call, 0, -1, 1, 1, 2, -1, 3, 1, -1, 1);
        Edges.answersFor(26, "even ones alone, LAW", Edges.bank("party 0 0 4 0;party 0 0 8 0" + two), call, 0, -1, 1, 2, 2, -1, 3, -1, -1, 1);
        Edges.answersFor(26, "odd ones alone, LAW", Edges.bank("party 0 0 9 0;party 0 0 3 0" + two), call, 0, -1, 1, -1, 2, 2, 3, -1, -1, 2);
        Edges.answersFor(26, "squares alone, LAW", Edges.bank("party 0 0 9 0;party 0 0 4 0" + two), call, 0, -1, 1, -1, 2, -1, 3, 2, -1, 3);
        Edges.answersFor(26, "fewest, not least, LAW", Edges.bank("party 0 0 3 0;party 0 0 5 0;hermits 0"), call, 0, 2, 1, 1, 2, 2, 3, -1,
            -1, 1);
        Edges.answersFor(26, "the LAW that is told doesn't count, LAW", Edges.bank("party 0 0 4 0;hermits 0;law 3"), call, 0, -1, 1, 1, -1, 1);
        Edges.answersFor(26, "the most crossings, LAW", EIGHT_TIMES, call, 0, 8, 1, 8, 2, 8, 3, 8, -1, 0);
        Edges.refusedFor(26, "LAW", RICH, call, BAD, -2, 4, MIN, MAX);
        Edges.refusedFor(26, "none has a PLAN, LAW", NO_PLAN, call, BAD, -2, 4);
    }

    private static void sizes() {
        Edges.answers(27, "there are no PARTIES", EMPTY, x -> x.sizes(), 1);
        Edges.answers(27, "all are OVER", ALL_OVER, x -> x.sizes(), 1);
        Edges.answers(27, "not those OVER", RICH, x -> x.sizes(), 13);
        Edges.answers(27, "whatever SEATS there are: 1", Edges.after(RICH, x -> x.tell(0, 1)), x -> x.sizes(), 13);
        Edges.answers(27, "whatever SEATS there are: 99", Edges.after(RICH, x -> x.tell(0, 99)), x -> x.sizes(), 13);
        Edges.answers(27, "the least that can be", Edges.bank("party 0 0 1 0;law 2"), x -> x.sizes(), 1);
        Edges.answers(27, "two", Edges.bank("party 0 0 1 0"), x -> x.sizes(), 2);
        Edges.answers(27, "with hermits", EIGHT_TIMES, x -> x.sizes(), 36);
        String tied = "party 0 0 40 0;party 0 0 40 0;party 0 0 ";
        String bonds = " 0;tie 0 1;tie 1 2";
        Edges.answers(27, "the greatest that can be", Edges.bank(tied + 19 + bonds + ";law 2;hermits 0"), x -> x.sizes(), 99);
        Edges.answers(27, "the greatest with a hermit", Edges.bank(tied + 18 + bonds + ";law 2;hermits 1"), x -> x.sizes(), 99);
        Edges.answers(27, "the same without hermits", Edges.bank(tied + 18 + bonds + ";law 2;hermits 0"), x -> x.sizes(), -1);
        Edges.answers(27, "the greatest prime", Edges.bank(tied + 17 + bonds), x -> x.sizes(), 97);
        Edges.answers(27, "more than the greatest prime", Edges.bank(tied + 18 + bonds), x -> x.sizes(), -1);
        Edges.answers(27, "a hundred", Edges.bank(tied + 20 + bonds + ";law 1"), x -> x.sizes(), -1);
        Edges.answers(27, "torn", TORN, x -> x.sizes(), -1);
        for (int size = 1; size <= 40; size++) {
            Edges.answers(27, "an odd law and one of SIZE " + size, Edges.bank("party 0 0 " + size + " 0;law 2;hermits 1"), x -> x.sizes(),
                size % 2 == 1 ? size : size + 1);
        }
    }

    private static void rules() {
        Edges.answers(39, "there are no PARTIES", EMPTY, x -> x.rules(), 0);
        Edges.answers(39, "all are OVER", ALL_OVER, x -> x.rules(), 0);
        Edges.answers(39, "none has a PLAN", NO_PLAN, x -> x.rules(), 0);
        Edges.answers(39, "all alike: the least", EIGHT_TIMES, x -> x.rules(), 0);
        // 4 doesn't go, 7 does
        String family = "party 1 3 4 0;hermits 0";
        String flock = "party 2 4 7 0;hermits 0";
        Edges.answers(39, "by 1 and 3", Edges.bank(family), x -> x.rules(), 1);
        Edges.answers(39, "by 2 and 3", Edges.bank(flock), x -> x.rules(), 2);
        Edges.answers(39, "by 3 alone", Edges.bank("party 1 3 4 0;" + flock + ";shun 0 1"), x -> x.rules(), 3);
        Edges.answers(39, "by 0 alone", Edges.bank("party 1 1 7 0;party 2 7 4 0;hermits 0;shun 0 1"), x -> x.rules(), 0);
        Edges.answers(39, "the RULE that is told doesn't count", Edges.bank(family + ";rule 0"), x -> x.rules(), 1);
        Edges.answers(39, "then least hermits", Edges.bank("party 1 1 12 0"), x -> x.rules(), 1);
        // a flock of 9 or 1: 9 and 7 are two crossings with two hermits, 8 is one with three
        Edges.answers(39, "fewest crossings ahead of least hermits", Edges.bank("party 2 9 1 0;party 0 0 7 0"), x -> x.rules(), 2);
    }

    private static void loosen() {
        Edges.answers(43, "there are no PARTIES", EMPTY, x -> x.loosen(), -1);
        Edges.answers(43, "no two are TIED", EIGHT_TIMES, x -> x.loosen(), -1);
        Edges.answers(43, "two SHUN each other", Edges.bank(Edges.crowd(2) + ";shun 0 1"), x -> x.loosen(), -1);
        Edges.answers(43, "the least that can be", RICH, x -> x.loosen(), 1);
        Edges.answers(43, "the greatest that can be", Edges.bank(Edges.crowd(8) + ";tie 7 6"), x -> x.loosen(), 67);
        Edges.answers(43, "of several the first by numbers", Edges.bank(Edges.crowd(8) + ";tie 7 6;tie 5 3;tie 4 3"), x -> x.loosen(), 34);
        Edges.answers(43, "of several the first by the lesser ahead of the other", Edges.bank(Edges.crowd(8) + ";tie 2 1;tie 0 7"),
            x -> x.loosen(), 7);
        Edges.answers(43, "there is no PLAN by any", Edges.after(NO_PLAN, x -> x.bind(0, 1, 1)), x -> x.loosen(), 1);
        Edges.answers(43, "none is most", Edges.bank("party 0 0 7 0;party 0 0 7 0;party 0 0 4 0;tie 0 1;tie 0 2;hermits 0;seats 11"),
            x -> x.loosen(), 1);
        Edges.answers(43, "none is most, the other way", Edges.bank("party 0 0 7 0;party 0 0 4 0;party 0 0 7 0;tie 0 1;tie 0 2;hermits 0;seats 11"),
            x -> x.loosen(), 2);
        // 3 and 6 with 5: 3, and 11 without hermits; or 9 with two, and 5
        Edges.answers(43, "then least hermits", Edges.bank("party 0 0 5 0;party 0 0 6 0;party 0 0 3 0;tie 0 1;tie 1 2;seats 11"),
            x -> x.loosen(), 12);
        // 3 and 9 with two, or 8 with three and 4 with one; were both ties none, 7 and 5 would need no hermits
        Edges.answers(43, "one by one, not both", Edges.bank("party 0 0 3 0;party 0 0 5 0;party 0 0 4 0;tie 0 1;tie 1 2;seats 11"),
            x -> x.loosen(), 1);
        Edges.answers(43, "all are OVER", Edges.after(ALL_OVER, x -> x.bind(2, 5, 1)), x -> x.loosen(), 25);
    }

    private static Supplier<RowsOnlyPrimes> boat(int seats, int law) {
        return Edges.after(EMPTY, x -> x.tell(0, seats), x -> x.tell(1, law));
    }

    private static void left() {
        IntFunction<Edges.Call> call = n -> x -> x.left(n);
        Edges.answersFor(28, "by primes, n", boat(13, 0), call, 0, 0, 1, 1, 2, 0, 3, 0, 4, 0, 399, 0, 400, 0);
        Edges.answersFor(28, "none goes, n", boat(1, 0), call, 0, 0, 1, 1, 2, 2, 399, 399, 400, 400);
        Edges.answersFor(28, "by twos, n", boat(2, 0), call, 0, 0, 1, 1, 2, 0, 3, 1, 399, 1, 400, 0);
        Edges.answersFor(28, "by even ones, n", boat(99, 1), call, 1, 1, 99, 1, 399, 1, 400, 0);
        Edges.answersFor(28, "by ones, n", boat(1, 2), call, 0, 0, 1, 0, 400, 0);
        Edges.answersFor(28, "by squares, n", boat(99, 3), call, 0, 0, 2, 0, 3, 0, 400, 0);
        Edges.answersFor(28, "no hermits help, n", Edges.after(boat(99, 0), x -> x.tell(3, 9)), call, 1, 1);
        Edges.refusedFor(28, "n", RICH, call, BAD, -1, 401, MIN, MAX);
        Edges.refusedFor(28, "none goes, n", boat(1, 0), call, BAD, -1, 401);
    }

    private static void ways() {
        IntFunction<Edges.Call> call = n -> x -> x.ways(n);
        Edges.answersFor(29, "by primes, n", boat(13, 0), call, 0, 1, 1, 0, 2, 1, 3, 1, 4, 1, 5, 2, 6, 2, 7, 3, 60, 893);
        Edges.answersFor(29, "none goes, n", boat(1, 0), call, 0, 1, 1, 0, 60, 0);
        Edges.answersFor(29, "by ones, n", boat(1, 2), call, 0, 1, 1, 1, 60, 1);
        Edges.answersFor(29, "by twos, n", boat(2, 0), call, 0, 1, 1, 0, 59, 0, 60, 1);
        // as many as there are sums of different numbers
        Edges.answersFor(29, "by odd ones, n", boat(99, 2), call, 1, 1, 2, 1, 3, 2, 4, 2, 5, 3, 10, 10, 58, 8808, 60, 10880);
        // as many as there are sums of any numbers to the half
        Edges.answersFor(29, "by even ones, n", boat(99, 1), call, 0, 1, 1, 0, 2, 1, 4, 2, 59, 0, 60, 5604);
        Edges.answersFor(29, "by squares, n", boat(99, 3), call, 3, 1, 4, 2, 8, 3, 9, 4);
        Edges.answersFor(29, "the SEATS bound each, n", boat(3, 0), call, 5, 1, 60, 11);
        Edges.refusedFor(29, "n", RICH, call, BAD, -1, 61, MIN, MAX);
        Edges.refusedFor(29, "none goes, n", boat(1, 0), call, BAD, -1, 61);
    }

    private static void bids() {
        int[][] purses = {{0, 0, 0}, {1, 0, 1}, {0, 1, 0}, {1, 1, 1}, {2, 2, 2}, {3, 3, 3}, {4, 4, 0}, {5, 5, 1}, {3, 0, 1}, {3, 2, 1},
            {2, 3, 0}, {2, 1, 1}, {96, 96, 0}, {97, 97, 1}, {98, 98, 2}, {99, 99, 3}, {99, 0, 1}, {0, 99, 0}, {99, 98, 1}, {98, 99, 0}};
        for (int[] p : purses) {
            Supplier<RowsOnlyPrimes> two = Edges.bank("party 0 0 1 " + p[0] + ";party 0 0 1 " + p[1]);
            Edges.answers(30, "PURSES " + p[0] + " and " + p[1] + ": whether it wins", two, x -> x.bids(0, 1, 0), p[2] > 0 ? 1 : 0);
            Edges.answers(30, "PURSES " + p[0] + " and " + p[1] + ": how much", two, x -> x.bids(0, 1, 1), p[2]);
        }
        Edges.answers(30, "the first one begins", RICH, x -> x.bids(0, 1, 0), 1);
        Edges.answers(30, "the other way round", RICH, x -> x.bids(1, 0, 0), 0);
        Edges.answers(30, "OVER or not", RICH, x -> x.bids(2, 4, 1), 1);
        Edges.answers(30, "the eighth and the first", CROWDED, x -> x.bids(7, 0, 0), 1);
    }

    private static void bidRefusals() {
        Edges.refusedFor(30, "PARTY", RICH, p -> x -> x.bids(p, 0, 0), BAD, -1, 5, 8, MIN, MAX);
        Edges.refusedFor(30, "other", RICH, p -> x -> x.bids(0, p, 1), BAD, -1, 5, 8, MIN, MAX);
        Edges.refusedFor(30, "of eight, other", CROWDED, p -> x -> x.bids(0, p, 1), BAD, -1, 8);
        Edges.refusedFor(30, "the same", RICH, p -> x -> x.bids(p, p, 0), BAD, 0, 4);
        Edges.refusedFor(30, "what", RICH, v -> x -> x.bids(0, 1, v), BAD, -1, 2, MIN, MAX);
        Edges.refused(30, "nobody is there", EMPTY, x -> x.bids(0, 1, 0), BAD);
    }
}
