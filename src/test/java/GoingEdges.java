import java.util.function.IntFunction;
import java.util.function.Supplier;

/** Edges of promises 17 to 23, 32 to 38, 40, 41 and 44 to 49: numbers, groups and parties; none changes a thing. */
final class GoingEdges {
    private static final int BAD = Edges.BAD;
    private static final int STUCK = Edges.STUCK;
    private static final int MIN = Edges.MIN;
    private static final int MAX = Edges.MAX;
    private static final Supplier<RowsOnlyPrimes> EMPTY = Edges.empty();
    private static final Supplier<RowsOnlyPrimes> RICH = Edges.rich();
    private static final Supplier<RowsOnlyPrimes> CROWDED = Edges.full();
    // heads 1 each: with an odd law and one hermit each group may go
    private static final Supplier<RowsOnlyPrimes> ALL_GO = Edges.bank(Edges.crowd(8) + ";law 2;seats 99;hermits 1");
    private static final Supplier<RowsOnlyPrimes> NONE_GO = Edges.bank(Edges.crowd(8) + ";seats 1");
    private static final Supplier<RowsOnlyPrimes> ALL_OVER = Edges.after(ALL_GO, x -> x.cross(255));
    // a chain of ties through all eight, by no order
    private static final Supplier<RowsOnlyPrimes> CHAIN = Edges.bank(Edges.crowd(8) + ";tie 7 0;tie 0 6;tie 6 1;tie 1 5;tie 5 2;tie 2 4;"
        + "tie 4 3;law 1");
    private static final int[] NO_GROUPS = {-1, 32, 33, 64, 256, MIN, MAX};
    private static final int[] NO_PARTIES = {-1, 5, 8, 31, MIN, MAX};

    private GoingEdges() {
    }

    static void run() {
        heads();
        headsByRule();
        goes();
        next();
        before();
        numbers();
        hire();
        hireByBonds();
        lacks();
        fare();
        spare();
        many();
        stranded();
        alone();
        along();
        fullest();
        cheapest();
        knot();
        torn();
        fit();
        waiting();
        together();
        purses();
        ofKind();
    }

    private static Supplier<RowsOnlyPrimes> boat(int seats, int law) {
        return Edges.after(EMPTY, x -> x.tell(0, seats), x -> x.tell(1, law));
    }

    private static void badGroups(int promise, IntFunction<Edges.Call> call) {
        Edges.refusedFor(promise, "GROUP", RICH, call, BAD, NO_GROUPS);
        Edges.refusedFor(promise, "of eight, GROUP", CROWDED, call, BAD, -1, 256, 257);
        Edges.refusedFor(promise, "nobody is there, GROUP", EMPTY, call, BAD, -1, 1, 128);
    }

    private static void badParties(int promise, IntFunction<Edges.Call> call) {
        Edges.refusedFor(promise, "PARTY", RICH, call, BAD, NO_PARTIES);
        Edges.refusedFor(promise, "of eight, PARTY", CROWDED, call, BAD, -1, 8);
        Edges.refusedFor(promise, "nobody is there, PARTY", EMPTY, call, BAD, -1, 0);
    }

    private static void heads() {
        Edges.answersFor(17, "GROUP", RICH, g -> x -> x.heads(g), 0, 0, 1, 4, 2, 8, 8, 7, 16, 3, 31, 28);
        Edges.answersFor(17, "OVER or not, GROUP", RICH, g -> x -> x.heads(g), 4, 6, 12, 13);
        Edges.answersFor(17, "of eight, GROUP", CROWDED, g -> x -> x.heads(g), 0, 0, 1, 1, 128, 15, 255, 50);
        Edges.answers(17, "nobody of nobody", EMPTY, x -> x.heads(0), 0);
        Edges.answers(17, "the most that can be", Edges.bank("party 5 9 40 0" + ";party 5 9 40 0".repeat(7)), x -> x.heads(255), 392);
        badGroups(17, g -> x -> x.heads(g));
    }

    private static void headsByRule() {
        String text = "party 0 9 4 0;party 1 3 5 0;party 2 2 9 0;party 3 4 7 0;party 4 1 2 0;party 5 2 7 0;party 2 0 3 0;party 3 0 1 0";
        int[][] want = {{4, 5, 2, 4, 2, 9, 0, 1}, {4, 8, 2, 6, 2, 9, 0, 1}, {4, 5, 9, 4, 3, 9, 3, 1}, {4, 8, 9, 6, 3, 9, 3, 1}};
        for (int rule = 0; rule < 4; rule++) {
            for (int p = 0; p < 8; p++) {
                int group = 1 << p;
                int who = p;
                Edges.answers(17, "RULE " + rule + ", PARTY " + p, Edges.bank(text + ";rule " + rule), x -> x.heads(group), want[rule][p]);
                Edges.answers(16, "RULE " + rule + ", HEADS of PARTY " + p, Edges.bank(text + ";rule " + rule), x -> x.partyOf(who, 4),
                    want[rule][p]);
            }
        }
        Edges.answers(17, "half of two", Edges.bank("party 3 0 2 0"), x -> x.heads(1), 1);
        Edges.answers(17, "half of three, upward", Edges.bank("party 3 1 2 0"), x -> x.heads(1), 2);
        Edges.answers(17, "half of the most", Edges.bank("party 3 9 40 0"), x -> x.heads(1), 25);
        Edges.answers(17, "the least PACK: a FLOCK of 0, and 1", Edges.bank("party 4 0 40 0;rule 0"), x -> x.heads(1), 1);
    }

    private static void goes() {
        IntFunction<Edges.Call> call = n -> x -> x.goes(n);
        Edges.answersFor(18, "prime, n", boat(99, 0), call, 0, 0, 1, 0, 2, 1, 3, 1, 4, 0, 5, 1, 9, 0, 25, 0, 49, 0, 77, 0, 89, 1, 91, 0,
            97, 1, 98, 0, 99, 0, 100, 0, 101, 0, 997, 0, 999, 0);
        Edges.answersFor(18, "even, n", boat(99, 1), call, 0, 0, 1, 0, 2, 1, 3, 0, 97, 0, 98, 1, 99, 0, 100, 0, 998, 0, 999, 0);
        Edges.answersFor(18, "odd, n", boat(99, 2), call, 0, 0, 1, 1, 2, 0, 3, 1, 97, 1, 98, 0, 99, 1, 100, 0, 101, 0, 999, 0);
        Edges.answersFor(18, "square, n", boat(99, 3), call, 0, 0, 1, 1, 2, 0, 3, 0, 4, 1, 8, 0, 9, 1, 10, 0, 80, 0, 81, 1, 82, 0, 99, 0,
            100, 0, 961, 0);
        Edges.answersFor(18, "of 13 SEATS, n", boat(13, 0), call, 11, 1, 12, 0, 13, 1, 17, 0);
        Edges.answersFor(18, "of 12 SEATS, n", boat(12, 0), call, 11, 1, 12, 0, 13, 0);
        Edges.answersFor(18, "prime, of one SEAT, n", boat(1, 0), call, 0, 0, 1, 0, 2, 0);
        Edges.answersFor(18, "even, of one SEAT, n", boat(1, 1), call, 0, 0, 1, 0, 2, 0);
        Edges.answersFor(18, "even, of two SEATS, n", boat(2, 1), call, 2, 1, 4, 0);
        Edges.answersFor(18, "odd, of one SEAT, n", boat(1, 2), call, 0, 0, 1, 1, 3, 0);
        Edges.answersFor(18, "square, of one SEAT, n", boat(1, 3), call, 0, 0, 1, 1, 4, 0);
        Edges.answersFor(18, "square, of 81 SEATS, n", boat(81, 3), call, 81, 1);
        Edges.answersFor(18, "square, of 80 SEATS, n", boat(80, 3), call, 81, 0);
        Edges.refusedFor(18, "n", RICH, call, BAD, -1, 1000, MIN, MAX);
    }

    private static void next() {
        IntFunction<Edges.Call> call = n -> x -> x.next(n);
        Edges.answersFor(19, "prime, n", boat(99, 0), call, 0, 2, 1, 2, 2, 2, 3, 3, 4, 5, 90, 97, 97, 97, 98, -1, 99, -1);
        Edges.answersFor(19, "even, n", boat(99, 1), call, 0, 2, 2, 2, 97, 98, 98, 98, 99, -1);
        Edges.answersFor(19, "odd, n", boat(99, 2), call, 0, 1, 1, 1, 98, 99, 99, 99);
        Edges.answersFor(19, "square, n", boat(99, 3), call, 0, 1, 1, 1, 2, 4, 81, 81, 82, -1, 99, -1);
        Edges.answersFor(19, "of 13 SEATS, n", boat(13, 0), call, 12, 13, 13, 13, 14, -1, 99, -1);
        Edges.answersFor(19, "of 12 SEATS, n", boat(12, 0), call, 11, 11, 12, -1);
        Edges.answersFor(19, "none goes, n", boat(1, 0), call, 0, -1, 2, -1, 99, -1);
        Edges.refusedFor(19, "n", RICH, call, BAD, -1, 100, MIN, MAX);
        Edges.refusedFor(19, "none goes, n", boat(1, 0), call, BAD, -1, 100);
    }

    private static void before() {
        IntFunction<Edges.Call> call = n -> x -> x.before(n);
        Edges.answersFor(48, "prime, n", boat(99, 0), call, 0, -1, 1, -1, 2, 2, 3, 3, 4, 3, 96, 89, 97, 97, 98, 97, 99, 97);
        Edges.answersFor(48, "even, n", boat(99, 1), call, 0, -1, 1, -1, 2, 2, 99, 98);
        Edges.answersFor(48, "odd, n", boat(99, 2), call, 0, -1, 1, 1, 2, 1, 98, 97, 99, 99);
        Edges.answersFor(48, "square, n", boat(99, 3), call, 0, -1, 1, 1, 3, 1, 4, 4, 80, 64, 99, 81);
        Edges.answersFor(48, "of 13 SEATS, n", boat(13, 0), call, 12, 11, 13, 13, 99, 13);
        Edges.answersFor(48, "of 12 SEATS, n", boat(12, 0), call, 13, 11, 99, 11);
        Edges.answersFor(48, "none goes, n", boat(1, 0), call, 0, -1, 99, -1);
        Edges.refusedFor(48, "n", RICH, call, BAD, -1, 100, MIN, MAX);
        Edges.refusedFor(48, "none goes, n", boat(1, 0), call, BAD, -1, 100);
    }

    private static void numbers() {
        int[][] want = {{99, 0, 25}, {99, 1, 49}, {99, 2, 50}, {99, 3, 9}, {1, 0, 0}, {1, 1, 0}, {1, 2, 1}, {1, 3, 1}, {2, 0, 1}, {2, 1, 1},
            {13, 0, 6}, {12, 0, 5}, {97, 0, 25}, {96, 0, 24}, {98, 1, 49}, {97, 1, 48}, {98, 2, 49}, {81, 3, 9}, {80, 3, 8}};
        for (int[] w : want) {
            Edges.answers(32, w[0] + " SEATS, LAW " + w[1], boat(w[0], w[1]), x -> x.numbers(), w[2]);
        }
    }

    private static void hire() {
        IntFunction<Edges.Call> call = g -> x -> x.hire(g);
        Edges.answersFor(20, "nobody", RICH, call, 0, -1);
        Edges.answersFor(20, "nobody of nobody", EMPTY, call, 0, -1);
        Edges.answersFor(20, "one that is OVER", RICH, call, 4, -1, 12, -1, 28, -1);
        Edges.answersFor(20, "GROUP", RICH, call, 8, 0, 16, 0, 24, 1, 27, -1, 31, -1);
        Edges.answersFor(20, "as many as there are SEATS", RICH, call, 11, 0, 19, 2);
        Edges.answersFor(20, "everybody of eight", ALL_GO, call, 255, 1, 127, 0, 128, 0);
        String square = ";law 3;seats 99;hermits ";
        Edges.answers(20, "the most HERMITS", Edges.bank("party 0 0 27 0" + square + 9), x -> x.hire(1), 9);
        Edges.answers(20, "one less than the HERMITS that are lacking", Edges.bank("party 0 0 27 0" + square + 8), x -> x.hire(1), -1);
        Edges.answers(20, "ten are lacking", Edges.bank("party 0 0 26 0" + square + 9), x -> x.hire(1), -1);
        Edges.answers(20, "just the SEATS", Edges.bank("party 0 0 13 0;seats 13"), x -> x.hire(1), 0);
        Edges.answers(20, "one SEAT too few", Edges.bank("party 0 0 13 0;seats 12"), x -> x.hire(1), -1);
        Edges.answers(20, "just the SEATS with a hermit", Edges.bank("party 0 0 12 0;seats 13"), x -> x.hire(1), 1);
        Edges.answers(20, "no SEAT for a hermit", Edges.bank("party 0 0 12 0;seats 12"), x -> x.hire(1), -1);
        Edges.answers(20, "one hermit, who is there", Edges.bank("party 0 0 12 0;hermits 1"), x -> x.hire(1), 1);
        Edges.answers(20, "no HERMITS", Edges.bank("party 0 0 12 0;hermits 0"), x -> x.hire(1), -1);
        Edges.answers(20, "no HERMITS, and none lacking", Edges.bank("party 0 0 11 0;hermits 0"), x -> x.hire(1), 0);
        int[] aboard = {2, 2, 1, 1};
        for (int law = 0; law < 4; law++) {
            String nobody = "party 2 0 5 0;rule 0;law " + law;
            Edges.answers(20, "HEADS of 0 by LAW " + law, Edges.bank(nobody), x -> x.hire(1), aboard[law]);
            Edges.answers(20, "HEADS of 0 without HERMITS by LAW " + law, Edges.bank(nobody + ";hermits 0"), x -> x.hire(1), -1);
            Edges.answers(20, "HEADS of 0 with just those by LAW " + law, Edges.bank(nobody + ";seats 2;hermits " + aboard[law]),
                x -> x.hire(1), aboard[law]);
        }
        badGroups(20, call);
    }

    private static void hireByBonds() {
        IntFunction<Edges.Call> call = g -> x -> x.hire(g);
        Supplier<RowsOnlyPrimes> shun = Edges.bank("party 0 0 2 0;party 0 0 3 0;shun 0 1");
        Edges.answersFor(20, "two SHUN each other, GROUP", shun, call, 1, 0, 2, 0, 3, -1);
        Supplier<RowsOnlyPrimes> tie = Edges.bank("party 0 0 2 0;party 0 0 3 0;tie 0 1");
        Edges.answersFor(20, "two are TIED, GROUP", tie, call, 1, -1, 2, -1, 3, 0);
        Supplier<RowsOnlyPrimes> parted = Edges.after(tie, x -> x.cross(3), x -> x.comesBack(0));
        Edges.answersFor(20, "TIED to one that is OVER, GROUP", parted, call, 1, 0, 2, -1, 3, -1);
        Supplier<RowsOnlyPrimes> three = Edges.bank("party 0 0 2 0;party 0 0 3 0;party 0 0 6 0;tie 0 1;tie 1 2");
        Edges.answersFor(20, "three in a row of ties, GROUP", three, call, 1, -1, 2, -1, 3, -1, 4, -1, 5, -1, 6, -1, 7, 0);
        Supplier<RowsOnlyPrimes> back = Edges.after(three, x -> x.cross(7), x -> x.comesBack(0), x -> x.comesBack(2));
        Edges.answersFor(20, "the middle one is OVER, GROUP", back, call, 1, 0, 4, 1, 5, 3);
        Supplier<RowsOnlyPrimes> torn = Edges.after(three, x -> x.bind(0, 2, 2));
        Edges.answersFor(20, "TIED, and SHUNNING through a third, GROUP", torn, call, 3, -1, 5, -1, 6, -1, 7, -1);
        Edges.answersFor(20, "one that SHUNS one who is OVER, GROUP", RICH, call, 3, 1);
        Edges.answersFor(20, "the first and the eighth SHUN each other, GROUP", Edges.after(ALL_GO, x -> x.bind(0, 7, 2)), call, 129, -1,
            255, -1, 127, 0, 254, 0);
        Edges.answersFor(20, "all eight TIED, GROUP", CHAIN, call, 255, 0, 127, -1, 254, -1, 1, -1, 128, -1);
    }

    private static void lacks() {
        IntFunction<Edges.Call> call = g -> x -> x.lacks(g);
        Supplier<RowsOnlyPrimes> squares = Edges.bank("party 0 0 40 0;party 0 0 25 0;party 0 0 16 0;party 0 0 1 0;law 3;seats 99;hermits 0");
        Edges.answersFor(33, "square, GROUP", squares, call, 0, -1, 2, 0, 3, 16, 7, 0, 8, 0, 9, 8, 15, -1);
        Edges.answersFor(33, "of 81 SEATS, GROUP", Edges.after(squares, x -> x.tell(0, 81)), call, 3, 16, 7, 0);
        Edges.answersFor(33, "of 80 SEATS, GROUP", Edges.after(squares, x -> x.tell(0, 80)), call, 3, -1, 7, -1);
        Edges.answersFor(33, "whatever HERMITS there are, GROUP", Edges.after(squares, x -> x.tell(3, 9)), call, 3, 16);
        Edges.answersFor(33, "OVER, GROUP", RICH, call, 0, -1, 4, -1, 12, -1);
        Edges.answersFor(33, "TIED, GROUP", RICH, call, 1, -1, 2, -1, 3, 1, 11, 0, 27, -1);
        Edges.answersFor(33, "SHUNNING, GROUP", Edges.after(ALL_GO, x -> x.bind(0, 7, 2)), call, 129, -1, 128, 0);
        Edges.answers(33, "HEADS of 0", Edges.bank("party 2 0 5 0;rule 0;hermits 0"), x -> x.lacks(1), 2);
        Edges.answers(33, "nobody of nobody", EMPTY, x -> x.lacks(0), -1);
        badGroups(33, call);
    }

    private static void fare() {
        IntFunction<Edges.Call> call = g -> x -> x.fare(g);
        Edges.answersFor(40, "GROUP", RICH, call, 0, -1, 1, -1, 3, 5, 4, -1, 8, 0, 19, 10, 27, -1);
        String nine = "party 0 0 27 0;law 3;seats 36;hermits 9;cost ";
        Edges.answers(40, "the most HIRE, the most COST", Edges.bank(nine + 9), x -> x.fare(1), 81);
        Edges.answers(40, "the most HIRE, no COST", Edges.bank(nine + 0), x -> x.fare(1), 0);
        Edges.answers(40, "no HIRE, the most COST", Edges.bank("party 0 0 13 0;cost 9"), x -> x.fare(1), 0);
        Edges.answers(40, "another COST", Edges.after(Edges.bank("party 0 0 12 0"), x -> x.tell(4, 9)), x -> x.fare(1), 9);
        Edges.answers(40, "NONE, no COST", Edges.bank("party 0 0 14 0;cost 0"), x -> x.fare(1), -1);
        badGroups(40, call);
    }

    private static void spare() {
        IntFunction<Edges.Call> call = g -> x -> x.spare(g);
        Edges.answersFor(46, "GROUP", RICH, call, 0, -1, 1, -1, 3, 6, 4, -1, 8, 12, 11, 0, 19, 2, 24, 8, 27, -1);
        Edges.answers(46, "all SEATS taken", Edges.bank("party 0 0 13 0"), x -> x.spare(1), 0);
        Edges.answers(46, "all SEATS taken, one by a hermit", Edges.bank("party 0 0 12 0"), x -> x.spare(1), 0);
        Edges.answers(46, "the most that can be", Edges.bank("party 0 0 1 0;law 2;seats 99"), x -> x.spare(1), 98);
        Edges.answers(46, "one too many", Edges.bank("party 0 0 14 0"), x -> x.spare(1), -1);
        badGroups(46, call);
    }

    private static void many() {
        Edges.answers(21, "there are no PARTIES", EMPTY, x -> x.many(), 0);
        Edges.answers(21, "some", RICH, x -> x.many(), 6);
        Edges.answers(21, "each GROUP of eight", ALL_GO, x -> x.many(), 255);
        Edges.answers(21, "each but all together", Edges.after(ALL_GO, x -> x.tell(0, 8)), x -> x.many(), 254);
        Edges.answers(21, "none", NONE_GO, x -> x.many(), 0);
        Edges.answers(21, "all together alone", CHAIN, x -> x.many(), 1);
        Edges.answers(21, "all are OVER", ALL_OVER, x -> x.many(), 0);
        Edges.answers(21, "the eighth alone isn't OVER", Edges.after(ALL_OVER, x -> x.comesBack(7)), x -> x.many(), 1);
        Edges.answers(21, "one", Edges.bank("party 0 0 2 0"), x -> x.many(), 1);
    }

    private static void stranded() {
        Edges.answers(22, "there are no PARTIES", EMPTY, x -> x.stranded(), 0);
        Edges.answers(22, "nobody", RICH, x -> x.stranded(), 0);
        Edges.answers(22, "some; who is OVER isn't", Edges.after(RICH, x -> x.tell(0, 6)), x -> x.stranded(), 11);
        Edges.answers(22, "all eight", NONE_GO, x -> x.stranded(), 255);
        Edges.answers(22, "nobody of eight", ALL_GO, x -> x.stranded(), 0);
        Edges.answers(22, "all are OVER", Edges.after(ALL_OVER, x -> x.tell(0, 1), x -> x.tell(1, 0)), x -> x.stranded(), 0);
        Edges.answers(22, "the eighth alone isn't OVER", Edges.after(ALL_OVER, x -> x.comesBack(7), x -> x.tell(1, 0), x -> x.tell(3, 0)),
            x -> x.stranded(), 128);
        Edges.answers(22, "all go together or not at all", CHAIN, x -> x.stranded(), 0);
        Edges.answers(22, "the first can go alone", Edges.bank("party 0 0 2 0;party 0 0 40 0"), x -> x.stranded(), 2);
        Edges.answers(22, "the last can go alone", Edges.bank("party 0 0 40 0;party 0 0 2 0"), x -> x.stranded(), 1);
        Edges.answers(22, "who goes with another", Edges.bank("party 0 0 4 0;party 0 0 7 0;hermits 0"), x -> x.stranded(), 0);
        Edges.answers(22, "the other is OVER", Edges.after(Edges.bank("party 0 0 4 0;party 0 0 7 0;hermits 0"), x -> x.cross(2)),
            x -> x.stranded(), 1);
    }

    private static void alone() {
        Edges.answers(44, "there are no PARTIES", EMPTY, x -> x.alone(), 0);
        Edges.answers(44, "not those OVER, not those TIED", RICH, x -> x.alone(), 24);
        Edges.answers(44, "all eight", ALL_GO, x -> x.alone(), 255);
        Edges.answers(44, "none of eight", NONE_GO, x -> x.alone(), 0);
        Edges.answers(44, "all are OVER", ALL_OVER, x -> x.alone(), 0);
        Edges.answers(44, "the eighth", Edges.after(ALL_OVER, x -> x.comesBack(7)), x -> x.alone(), 128);
        Edges.answers(44, "with one hermit doesn't count", Edges.bank("party 0 0 12 0;party 0 0 13 0"), x -> x.alone(), 2);
        Edges.answers(44, "HEADS of 0", Edges.bank("party 2 0 5 0;rule 0;law 1"), x -> x.alone(), 0);
        Edges.answers(44, "TIED to one that is OVER", Edges.after(Edges.bank("party 0 0 2 0;party 0 0 3 0;tie 0 1"), x -> x.cross(3),
            x -> x.comesBack(0)), x -> x.alone(), 1);
        Edges.answers(44, "SHUNNING another", Edges.bank("party 0 0 2 0;party 0 0 3 0;shun 0 1"), x -> x.alone(), 3);
    }

    private static void along() {
        IntFunction<Edges.Call> call = p -> x -> x.along(p);
        Edges.answersFor(23, "PARTY", RICH, call, 0, 1, 1, 0, 3, 4, 4, 3);
        Edges.answers(23, "nobody else is there", Edges.bank("party 0 0 2 0"), call.apply(0), -1);
        Edges.answersFor(23, "of several the first, PARTY", Edges.bank("party 0 0 2 0;party 0 0 3 0;party 0 0 3 0"), call, 0, 1, 1, 0, 2, 0);
        Edges.answersFor(23, "with least HIRE, PARTY", Edges.bank("party 0 0 4 0;party 0 0 6 0;party 0 0 7 0"), call, 0, 2, 1, 2, 2, 0);
        Edges.answersFor(23, "of eight, PARTY", Edges.bank(Edges.crowd(8)), call, 0, 1, 1, 0, 7, 0);
        Edges.answersFor(23, "with nobody, PARTY", NONE_GO, call, 0, -1, 7, -1);
        Edges.answersFor(23, "all others are OVER, PARTY", Edges.after(ALL_OVER, x -> x.comesBack(7)), call, 7, -1);
        Edges.answersFor(23, "the eighth, PARTY", Edges.after(ALL_OVER, x -> x.comesBack(0), x -> x.comesBack(7)), call, 0, 7, 7, 0);
        Edges.answersFor(23, "SHUNNING, PARTY", Edges.bank("party 0 0 2 0;party 0 0 3 0;shun 0 1"), call, 0, -1, 1, -1);
        Edges.answersFor(23, "just the two, PARTY", Edges.bank("party 0 0 2 0;party 0 0 3 0;party 0 0 3 0;tie 0 1"), call, 0, 1, 2, -1);
        Edges.answersFor(23, "with the most HERMITS, PARTY", Edges.bank("party 0 0 20 0;party 0 0 7 0;law 3;seats 36;hermits 9"), call, 0, 1);
        Edges.answersFor(23, "with more than there are, PARTY", Edges.bank("party 0 0 20 0;party 0 0 7 0;law 3;seats 36;hermits 8"), call,
            0, -1);
        Edges.refused(23, "it is OVER", RICH, call.apply(2), STUCK);
        Edges.refusedFor(23, "all are OVER, PARTY", ALL_OVER, call, STUCK, 0, 7);
        badParties(23, call);
    }

    private static void fullest() {
        int[][] want = {{11, 19}, {255, 8}, {-1, -1}, {-1, -1}, {-1, -1}, {255, 8}, {1, 0}, {3, 5}, {127, 7}, {128, 1}};
        java.util.List<Supplier<RowsOnlyPrimes>> scenes = java.util.List.of(RICH, ALL_GO, EMPTY, NONE_GO, ALL_OVER, CHAIN,
            Edges.bank("party 2 0 5 0;rule 0"), Edges.bank("party 0 0 2 0;party 0 0 3 0;party 0 0 3 0;seats 5"),
            Edges.after(ALL_GO, x -> x.tell(3, 0)), Edges.after(ALL_OVER, x -> x.comesBack(7)));
        String[] edges = {"not those OVER", "each GROUP may go", "no PARTIES", "none may go", "all are OVER", "one may go",
            "HEADS of 0", "of several the least as bits", "of eight with seven HEADS the least as bits", "the eighth"};
        for (int i = 0; i < edges.length; i++) {
            Edges.answers(34, edges[i] + ": the GROUP", scenes.get(i), x -> x.fullest(0), want[i][0]);
            Edges.answers(34, edges[i] + ": its HEADS", scenes.get(i), x -> x.fullest(1), want[i][1]);
        }
        Edges.refusedFor(34, "what", RICH, v -> x -> x.fullest(v), BAD, -1, 2, MIN, MAX);
        Edges.refusedFor(34, "none may go, what", NONE_GO, v -> x -> x.fullest(v), BAD, -1, 2);
    }

    private static void cheapest() {
        IntFunction<Edges.Call> call = p -> x -> x.cheapest(p);
        Edges.answersFor(35, "PARTY", RICH, call, 0, 11, 1, 11, 3, 8, 4, 16);
        Edges.answersFor(35, "of several the least as bits, PARTY", ALL_GO, call, 0, 1, 1, 2, 7, 128);
        Edges.answersFor(35, "all together alone, PARTY", CHAIN, call, 0, 255, 7, 255);
        Edges.answersFor(35, "none may go, PARTY", NONE_GO, call, 0, -1, 7, -1);
        Edges.answersFor(35, "least HIRE ahead of least bits, PARTY", Edges.bank("party 0 0 4 0;party 0 0 6 0;party 0 0 7 0"), call,
            0, 5, 1, 6, 2, 4);
        Edges.answersFor(35, "with the most HERMITS, PARTY", Edges.bank("party 0 0 27 0;law 3;seats 36;hermits 9"), call, 0, 1);
        Edges.answersFor(35, "with more than there are, PARTY", Edges.bank("party 0 0 27 0;law 3;seats 36;hermits 8"), call, 0, -1);
        Edges.refused(35, "it is OVER", RICH, call.apply(2), STUCK);
        Edges.refusedFor(35, "all are OVER, PARTY", ALL_OVER, call, STUCK, 0, 7);
        badParties(35, call);
    }

    private static void knot() {
        IntFunction<Edges.Call> call = p -> x -> x.knot(p);
        Edges.answersFor(36, "PARTY", RICH, call, 0, 3, 1, 3, 2, 4, 3, 8, 4, 16);
        Edges.answersFor(36, "all eight in a chain, PARTY", CHAIN, call, 0, 255, 1, 255, 2, 255, 3, 255, 4, 255, 5, 255, 6, 255, 7, 255);
        Edges.answersFor(36, "a chain by numbers, PARTY", Edges.bank(Edges.crowd(8) + ";tie 0 1;tie 1 2;tie 2 3;tie 3 4;tie 4 5;tie 5 6;tie 6 7"),
            call, 0, 255, 3, 255, 7, 255);
        Edges.answersFor(36, "a chain in two, PARTY", Edges.after(CHAIN, x -> x.bind(1, 5, 0)), call, 0, 195, 7, 195, 6, 195, 1, 195,
            5, 60, 2, 60, 4, 60, 3, 60);
        Edges.answersFor(36, "nobody is TIED, PARTY", ALL_GO, call, 0, 1, 7, 128);
        Edges.answersFor(36, "OVER or not, PARTY", Edges.after(CHAIN, x -> x.cross(255), x -> x.comesBack(3)), call, 3, 255, 7, 255);
        Edges.answers(36, "SHUNNING is no tie", Edges.bank(Edges.crowd(2) + ";shun 0 1"), call.apply(0), 1);
        badParties(36, call);
    }

    private static void torn() {
        Edges.answers(37, "there are no PARTIES", EMPTY, x -> x.torn(), 0);
        Edges.answers(37, "two that SHUN each other, of two KNOTS", RICH, x -> x.torn(), 0);
        Edges.answers(37, "ties alone", CHAIN, x -> x.torn(), 0);
        Edges.answers(37, "the two ends of a chain of eight", Edges.after(CHAIN, x -> x.bind(7, 3, 2)), x -> x.torn(), 1);
        Edges.answers(37, "of two chains", Edges.after(CHAIN, x -> x.bind(7, 3, 2), x -> x.bind(1, 5, 0)), x -> x.torn(), 0);
        Edges.answers(37, "two of three", Edges.bank(Edges.crowd(3) + ";tie 0 1;tie 1 2;shun 0 2"), x -> x.torn(), 1);
        Edges.answers(37, "two of three, told by calls", Edges.after(EMPTY, x -> x.party(0, 0, 1, 0), x -> x.party(0, 0, 1, 0),
            x -> x.party(0, 0, 1, 0), x -> x.bind(2, 1, 1), x -> x.bind(1, 0, 1), x -> x.bind(2, 0, 2)), x -> x.torn(), 1);
        Edges.answers(37, "the two that are TIED SHUN a third", Edges.bank(Edges.crowd(3) + ";tie 0 1;shun 1 2;shun 0 2"), x -> x.torn(), 0);
        Edges.answers(37, "all three OVER", Edges.after(Edges.bank(Edges.crowd(3) + ";tie 0 1;tie 1 2"), x -> x.cross(7),
            x -> x.bind(0, 2, 2)), x -> x.torn(), 1);
    }

    private static void fit() {
        IntFunction<Edges.Call> call = p -> x -> x.fit(p);
        String[] texts = {"party 0 0 9 0;law 2", "party 0 0 9 0", "party 0 0 9 0;law 1", "party 0 0 9 0;law 3", "party 0 0 9 0;seats 1",
            "party 5 9 1 0;law 3;seats 16", "party 5 9 1 0;law 3;seats 15", "party 5 9 1 0;seats 10", "party 5 9 1 0;seats 10;law 1",
            "party 5 9 1 0;seats 9;law 2", "party 1 9 1 0", "party 1 9 1 0;rule 0", "party 2 5 9 0;rule 0", "party 2 4 9 0;rule 0",
            "party 2 0 9 0;rule 0;law 1", "party 2 0 9 0", "party 3 0 9 0", "party 3 9 9 0", "party 3 9 9 0;rule 0", "party 4 0 9 0",
            "party 4 9 9 0;rule 0", "party 4 4 9 0;rule 0", "party 0 0 12 0;seats 99"};
        int[] want = {1, 2, 2, 1, -1, 7, -1, -1, 1, -1, 2, 2, 1, -1, -1, 2, 3, 1, 3, 1, -1, 1, 2};
        for (int i = 0; i < texts.length; i++) {
            Edges.answers(38, texts[i], Edges.bank(texts[i]), call.apply(0), want[i]);
        }
        Supplier<RowsOnlyPrimes> tie = Edges.bank("party 0 0 2 0;party 0 0 3 0;tie 0 1");
        Edges.answersFor(38, "TIED, PARTY", tie, call, 0, -1, 1, -1);
        Edges.answers(38, "TIED to one that is OVER", Edges.after(tie, x -> x.cross(3), x -> x.comesBack(0)), call.apply(0), 2);
        Edges.answers(38, "SHUNNING another", Edges.bank("party 0 0 9 0;party 0 0 3 0;shun 0 1"), call.apply(0), 2);
        Edges.answers(38, "the eighth", Edges.bank(Edges.crowd(8)), call.apply(7), 2);
        Edges.refused(38, "it is OVER", RICH, call.apply(2), STUCK);
        Edges.refusedFor(38, "all are OVER, PARTY", ALL_OVER, call, STUCK, 0, 7);
        badParties(38, call);
    }

    private static void waiting() {
        Edges.answers(41, "there are no PARTIES", EMPTY, x -> x.waiting(), 0);
        Edges.answers(41, "not those OVER", RICH, x -> x.waiting(), 22);
        Edges.answers(41, "all eight", CROWDED, x -> x.waiting(), 50);
        Edges.answers(41, "all are OVER", ALL_OVER, x -> x.waiting(), 0);
        Edges.answers(41, "HEADS of 0", Edges.bank("party 2 0 5 0;rule 0"), x -> x.waiting(), 0);
        Edges.answers(41, "the most that can be", Edges.bank("party 1 9 40 0" + ";party 1 9 40 0".repeat(7)), x -> x.waiting(), 392);
    }

    private static void together() {
        int[][] want = {{0, 1, 3}, {0, 3, 1}, {3, 0, 1}, {0, 4, 1}, {3, 4, 1}, {0, 2, 0}, {2, 3, 0}};
        for (int[] w : want) {
            Edges.answers(45, w[0] + " and " + w[1], RICH, x -> x.together(w[0], w[1]), w[2]);
        }
        Edges.answers(45, "the most that can be", ALL_GO, x -> x.together(0, 7), 64);
        Edges.answers(45, "all together alone", CHAIN, x -> x.together(7, 0), 1);
        Edges.answers(45, "none may go", NONE_GO, x -> x.together(0, 7), 0);
        Edges.answers(45, "both are OVER", ALL_OVER, x -> x.together(0, 7), 0);
        Edges.answers(45, "they SHUN each other", Edges.after(ALL_GO, x -> x.bind(0, 7, 2)), x -> x.together(0, 7), 0);
        badParties(45, p -> x -> x.together(p, 0));
        badParties(45, p -> x -> x.together(0, p));
        Edges.refusedFor(45, "the same", RICH, p -> x -> x.together(p, p), BAD, 0, 2, 4, 5);
    }

    private static void purses() {
        IntFunction<Edges.Call> call = g -> x -> x.purses(g);
        Edges.answersFor(47, "GROUP", RICH, call, 0, 0, 1, 20, 16, 3, 31, 47);
        Edges.answersFor(47, "OVER or not, GROUP", RICH, call, 4, 7, 5, 27);
        Edges.answersFor(47, "of eight, GROUP", CROWDED, call, 128, 97, 255, 748);
        Edges.answers(47, "nobody of nobody", EMPTY, call.apply(0), 0);
        Edges.answers(47, "the most that can be", Edges.bank("party 0 0 1 99" + ";party 0 0 1 99".repeat(7)), call.apply(255), 792);
        badGroups(47, call);
    }

    private static void ofKind() {
        IntFunction<Edges.Call> call = k -> x -> x.ofKind(k);
        Edges.answersFor(49, "KIND", RICH, call, 0, 2, 1, 1, 2, 1, 3, 0, 4, 0, 5, 1);
        Edges.answersFor(49, "there are no PARTIES, KIND", EMPTY, call, 0, 0, 5, 0);
        Edges.answersFor(49, "eight of one, KIND", ALL_GO, call, 0, 8, 1, 0, 5, 0);
        Edges.answersFor(49, "just of it, KIND", Edges.bank("party 3 0 1 0;party 4 0 1 0;party 3 0 1 0"), call, 0, 0, 1, 0, 2, 0, 3, 2, 4, 1);
        Edges.answersFor(49, "OVER or not, KIND", ALL_OVER, call, 0, 8);
        Edges.refusedFor(49, "KIND", RICH, call, BAD, -1, 6, MIN, MAX);
    }
}
