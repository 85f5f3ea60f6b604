/** Promises 17 to 23, 32 to 38, 40, 41 and 44 to 49: numbers, groups and parties, nothing changed. */
public final class GoingTest {
    private static final int BAD = -1002;
    private static final int STUCK = -1005;
    // heads 4, 6, 7
    private static final String THREE = "party 0 0 4 20;party 0 0 6 12;party 0 0 7 5";
    private static final Due due = new Due();

    public static void main(String[] args) {
        heads();
        numbers();
        nextAndBefore();
        hires();
        headsOfNobody();
        tiesAndShuns();
        overOnes();
        manyAndStranded();
        along();
        fullestAndCheapest();
        knots();
        fits();
        sums();
        kinds();
        badGroups();
        badParties();
        due.end("GoingTest");
    }

    private static void heads() {
        RowsOnlyPrimes x = Due.bank("party 0 9 4 0;party 1 3 5 0;party 2 2 9 0;party 3 4 7 0;party 4 1 2 0;party 5 2 7 0;party 2 0 3 0");
        int[][] byRule = {{4, 5, 2, 4, 2, 9, 0}, {4, 8, 2, 6, 2, 9, 0}, {4, 5, 9, 4, 3, 9, 3}, {4, 8, 9, 6, 3, 9, 3}};
        for (int rule = 0; rule < 4; rule++) {
            x.tell(2, rule);
            int sum = 0;
            for (int p = 0; p < 7; p++) {
                due.is("rule " + rule + " heads of " + p, x.heads(1 << p), byRule[rule][p]);
                due.is("rule " + rule + " partyOf(" + p + ", 4)", x.partyOf(p, 4), byRule[rule][p]);
                sum += byRule[rule][p];
            }
            due.is("all heads", x.heads(127), sum);
            due.is("waiting", x.waiting(), sum);
        }
        due.plain(x, "heads(0)", () -> x.heads(0), 0);
    }

    private static void numbers() {
        RowsOnlyPrimes x = new RowsOnlyPrimes();
        String[] byLaw = {"2 3 5 7 11 13 17 19 23 29 31 37 41 43 47 53 59 61 67 71 73 79 83 89 97", "", "", "1 4 9 16 25 36 49 64 81"};
        java.util.Set<String> primes = java.util.Set.of(byLaw[0].split(" "));
        java.util.Set<String> squares = java.util.Set.of(byLaw[3].split(" "));
        int[] counts = {25, 49, 50, 9};
        for (int law = 0; law < 4; law++) {
            RowsOnlyPrimes by = Due.bank("seats 99;law " + law);
            for (int n = 0; n < 1000; n += n < 102 ? 1 : 41) {
                boolean[] goes = {primes.contains("" + n), n % 2 == 0, n % 2 == 1, squares.contains("" + n)};
                due.is("law " + law + " goes(" + n + ")", by.goes(n), goes[law] && n >= 1 && n <= 99 ? 1 : 0);
            }
            due.is("law " + law + " numbers()", by.numbers(), counts[law]);
        }
        x.tell(0, 13);
        due.is("goes(13) of 13 seats", x.goes(13), 1);
        x.tell(0, 12);
        due.is("goes(13) of 12 seats", x.goes(13), 0);
        due.is("numbers() of 12 seats", x.numbers(), 5);
        x.tell(0, 1);
        due.is("numbers() of one seat", x.numbers(), 0);
        due.plain(x, "goes(0)", () -> x.goes(0), 0);
        due.plain(x, "goes(999)", () -> x.goes(999), 0);
        due.refused(x, "goes(-1)", () -> x.goes(-1), BAD);
        due.refused(x, "goes(1000)", () -> x.goes(1000), BAD);
    }

    private static void nextAndBefore() {
        RowsOnlyPrimes x = new RowsOnlyPrimes();
        int[] at = {0, 2, 3, 4, 8, 11, 12, 13, 14, 99};
        int[] next = {2, 2, 3, 5, 11, 11, 13, 13, -1, -1};
        int[] before = {-1, 2, 3, 3, 7, 11, 11, 13, 13, 13};
        for (int i = 0; i < at.length; i++) {
            int n = at[i];
            due.plain(x, "next(" + n + ")", () -> x.next(n), next[i]);
            due.plain(x, "before(" + n + ")", () -> x.before(n), before[i]);
        }
        x.tell(0, 99);
        x.tell(1, 2);
        due.is("next(99)", x.next(99), 99);
        due.is("before(99)", x.before(99), 99);
        due.is("before(1)", x.before(1), 1);
        due.refused(x, "next(-1)", () -> x.next(-1), BAD);
        due.refused(x, "next(100)", () -> x.next(100), BAD);
        due.refused(x, "before(-1)", () -> x.before(-1), BAD);
        due.refused(x, "before(100)", () -> x.before(100), BAD);
    }

    private static void hires() {
        RowsOnlyPrimes x = Due.bank(THREE);
        check(x, new int[] {-1, 1, 1, 1, 0, 0, 0, -1}, new int[] {-1, 1, 1, 1, 0, 0, 0, -1});
        x.tell(3, 0);
        check(x, new int[] {-1, -1, -1, -1, 0, 0, 0, -1}, new int[] {-1, 1, 1, 1, 0, 0, 0, -1});
        x.tell(3, 9);
        x.tell(1, 3);
        x.tell(0, 99);
        // squares: 4, 9, 16, 9, 16, 16, 25
        check(x, new int[] {-1, 0, 3, 6, 2, 5, 3, 8}, new int[] {-1, 0, 3, 6, 2, 5, 3, 8});
        x.tell(3, 2);
        check(x, new int[] {-1, 0, -1, -1, 2, -1, -1, -1}, new int[] {-1, 0, 3, 6, 2, 5, 3, 8});
        x.tell(0, 8);
        check(x, new int[] {-1, 0, -1, -1, -1, -1, -1, -1}, new int[] {-1, 0, -1, -1, -1, -1, -1, -1});
        RowsOnlyPrimes one = Due.bank("party 0 0 1 0;law 3;seats 99");
        due.is("far more hermits are lacking", Due.read(one, "party 0 0 40 0;party 0 0 26 0") * 100 + one.lacks(6), 215);
    }

    private static void check(RowsOnlyPrimes x, int[] hire, int[] lacks) {
        int seats = x.status(1);
        int cost = x.status(5);
        int refused = x.status(12) + x.status(15);
        for (int g = 0; g < hire.length; g++) {
            due.is("hire(" + g + ")", x.hire(g), hire[g]);
            due.is("fare(" + g + ")", x.fare(g), hire[g] < 0 ? -1 : hire[g] * cost);
            due.is("spare(" + g + ")", x.spare(g), hire[g] < 0 ? -1 : seats - x.heads(g) - hire[g]);
            due.is("lacks(" + g + ")", x.lacks(g), lacks[g]);
        }
        due.is("refused", x.status(12) + x.status(15), refused);
    }

    private static void headsOfNobody() {
        RowsOnlyPrimes x = Due.bank("party 2 0 5 0;rule 0");
        due.is("0 heads: two hermits row", x.hire(1), 2);
        due.is("cost", x.fare(1), 4);
        due.is("spare", x.spare(1), 11);
        due.is("fullest", x.fullest(0) * 10 + x.fullest(1), 10);
        x.tell(3, 1);
        due.is("one hermit doesn't do", x.hire(1), -1);
        due.is("two would", x.lacks(1), 2);
        due.is("stranded", x.stranded(), 1);
    }

    private static void tiesAndShuns() {
        RowsOnlyPrimes x = Due.bank(THREE + ";tie 0 1;seats 19");
        check(x, new int[] {-1, -1, -1, 1, 0, -1, -1, 0}, new int[] {-1, -1, -1, 1, 0, -1, -1, 0});
        x.bind(0, 2, 2);
        check(x, new int[] {-1, -1, -1, 1, 0, -1, -1, -1}, new int[] {-1, -1, -1, 1, 0, -1, -1, -1});
        x.bind(1, 0, 0);
        check(x, new int[] {-1, 1, 1, 1, 0, -1, 0, -1}, new int[] {-1, 1, 1, 1, 0, -1, 0, -1});
    }

    private static void overOnes() {
        RowsOnlyPrimes x = Due.bank(THREE + ";tie 0 1");
        x.cross(3);
        check(x, new int[] {-1, -1, -1, -1, 0, -1, -1, -1}, new int[] {-1, -1, -1, -1, 0, -1, -1, -1});
        due.is("heads of those over", x.heads(3), 10);
        due.is("purses of those over", x.purses(3), 32);
        due.is("waiting", x.waiting(), 7);
        due.is("many", x.many(), 1);
        due.is("stranded", x.stranded(), 0);
        due.is("alone", x.alone(), 4);
        due.is("together", x.together(0, 2), 0);
        due.is("knot of one over", x.knot(0), 3);
        due.is("fullest", x.fullest(0) * 10 + x.fullest(1), 47);
        x.comesBack(0);
        check(x, new int[] {-1, 1, -1, -1, 0, 0, -1, -1}, new int[] {-1, 1, -1, -1, 0, 0, -1, -1});
        due.is("its tied one is over", x.along(0), 2);
    }

    private static void manyAndStranded() {
        RowsOnlyPrimes x = Due.bank(THREE);
        due.plain(x, "many()", x::many, 6);
        due.plain(x, "stranded()", x::stranded, 0);
        due.plain(x, "alone()", x::alone, 4);
        x.tell(3, 0);
        due.is("many() without hermits", x.many(), 3);
        due.is("stranded() without hermits", x.stranded(), 0);
        x.tell(0, 12);
        due.is("stranded() in 12 seats", x.stranded(), 2);
        x.tell(0, 7);
        due.is("stranded() in 7 seats", x.stranded(), 3);
        due.is("alone() in 7 seats", x.alone(), 4);
        x.tell(0, 5);
        due.is("stranded() in 5 seats", x.stranded(), 7);
        due.is("many() in 5 seats", x.many(), 0);
        RowsOnlyPrimes all = Due.bank(THREE + ";seats 17;tie 0 1;tie 1 2");
        due.is("everybody together or nobody", all.many() * 10 + all.stranded(), 10);
        due.is("cheapest of everybody", all.cheapest(1), 7);
        due.is("together of everybody", all.together(0, 2), 1);
        due.is("fullest of everybody", all.fullest(0), 7);
        RowsOnlyPrimes first = Due.bank("party 0 0 2 0;party 0 0 40 0");
        due.is("the first alone", first.many() * 10 + first.stranded(), 12);
        due.is("cheapest of the first", first.cheapest(0), 1);
        due.is("fullest of the first", first.fullest(0), 1);
        RowsOnlyPrimes y = Due.bank("party 0 0 2 0;party 0 0 3 0;party 0 0 5 0;tie 0 1");
        due.is("tied ones don't go alone", y.alone(), 4);
        due.is("together(0, 1)", y.together(0, 1), 2);
        due.is("together(1, 2)", y.together(1, 2), 1);
        due.plain(y, "together(2, 0)", () -> y.together(2, 0), 1);
    }

    private static void along() {
        RowsOnlyPrimes x = Due.bank(THREE);
        due.plain(x, "along(0)", () -> x.along(0), 2);
        due.plain(x, "along(1)", () -> x.along(1), 2);
        due.plain(x, "along(2): of two the first", () -> x.along(2), 0);
        x.tell(0, 10);
        due.plain(x, "along(0) in 10 seats", () -> x.along(0), -1);
        x.tell(0, 13);
        x.cross(4);
        due.is("along(0): one who isn't over", x.along(0), 1);
        due.refused(x, "along of one over", () -> x.along(2), STUCK);
        RowsOnlyPrimes y = Due.bank("party 0 0 6 0");
        due.is("nobody else", y.along(0), -1);
    }

    private static void fullestAndCheapest() {
        RowsOnlyPrimes x = Due.bank(THREE);
        due.plain(x, "fullest(0)", () -> x.fullest(0), 6);
        due.plain(x, "fullest(1)", () -> x.fullest(1), 13);
        due.plain(x, "cheapest(0)", () -> x.cheapest(0), 5);
        due.plain(x, "cheapest(1)", () -> x.cheapest(1), 6);
        due.plain(x, "cheapest(2)", () -> x.cheapest(2), 4);
        x.tell(0, 11);
        due.is("of two the least", x.cheapest(1), 2);
        due.is("fullest in 11 seats", x.fullest(0) * 100 + x.fullest(1), 511);
        x.give(0, 0, 5);
        x.give(2, 0, 6);
        due.is("of three of 11 heads the least", x.fullest(0) * 100 + x.fullest(1), 311);
        x.tell(0, 2);
        due.plain(x, "fullest of none", () -> x.fullest(0), -1);
        due.plain(x, "heads of none", () -> x.fullest(1), -1);
        due.plain(x, "cheapest of none", () -> x.cheapest(0), -1);
        due.refused(x, "fullest(-1)", () -> x.fullest(-1), BAD);
        due.refused(x, "fullest(2)", () -> x.fullest(2), BAD);
        x.tell(0, 13);
        x.cross(1);
        due.refused(x, "cheapest of one over", () -> x.cheapest(0), STUCK);
    }

    private static void knots() {
        RowsOnlyPrimes x = Due.bank("party 0 0 1 0;".repeat(7) + "party 0 0 1 0");
        due.plain(x, "knot of one", () -> x.knot(3), 8);
        due.plain(x, "torn()", x::torn, 0);
        // a chain, its links not in order
        int[] chain = {7, 0, 6, 1, 5, 2, 4, 3};
        for (int i = 1; i < 8; i++) {
            x.bind(chain[i - 1], chain[i], 1);
        }
        for (int p = 0; p < 8; p++) {
            due.is("knot(" + p + ") of all", x.knot(p), 255);
        }
        x.bind(7, 3, 2);
        due.is("torn() at its ends", x.torn(), 1);
        x.bind(1, 6, 0);
        due.is("half of it", x.knot(0), 193);
        due.is("the other half", x.knot(3), 62);
        due.plain(x, "not torn()", x::torn, 0);
        x.bind(2, 3, 2);
        due.plain(x, "torn()", x::torn, 1);
        RowsOnlyPrimes down = Due.bank("party 0 0 1 0;".repeat(7) + "party 0 0 1 0");
        for (int p = 7; p > 0; p--) {
            due.is("knot(7) so far", down.knot(7), 256 - (1 << p));
            down.bind(p, p - 1, 1);
        }
        due.is("knot(7) of all", down.knot(7), 255);
        due.is("knot(0) of all", down.knot(0), 255);
        due.refused(x, "knot(8)", () -> x.knot(8), BAD);
        due.refused(x, "knot(-1)", () -> x.knot(-1), BAD);
    }

    private static void fits() {
        RowsOnlyPrimes x = Due.bank("party 0 0 9 0;party 1 4 9 0;party 3 4 9 0;party 2 5 9 0;party 2 6 9 0;party 4 0 9 0;party 5 9 9 0");
        int[] byRule3 = {2, 1, 1, 2, 2, 1, 2};
        int[] byRule0 = {2, 2, 3, 1, -1, -1, 2};
        x.tell(2, 3);
        for (int p = 0; p < 7; p++) {
            int party = p;
            due.plain(x, "fit(" + p + ") by rule 3", () -> x.fit(party), byRule3[p]);
        }
        x.tell(2, 0);
        for (int p = 0; p < 7; p++) {
            int party = p;
            due.plain(x, "fit(" + p + ") by rule 0", () -> x.fit(party), byRule0[p]);
        }
        due.is("size stands", x.partyOf(0, 2), 9);
        x.tell(1, 3);
        x.tell(0, 99);
        due.is("a square of 1", x.fit(0), 1);
        due.is("squares above: 9 and 7", x.fit(6), 7);
        x.bind(0, 6, 1);
        due.is("tied", x.fit(0) + x.fit(6), -2);
        x.bind(0, 6, 2);
        due.is("shunned", x.fit(0), 1);
        x.tell(1, 0);
        x.tell(0, 10);
        due.is("9 and 1 are no prime, 11 too many", x.fit(6), -1);
        x.give(0, 0, 7);
        x.cross(1);
        due.refused(x, "fit of one over", () -> x.fit(0), STUCK);
        x.bind(0, 3, 1);
        due.is("tied to one who is over", x.fit(3), 1);
    }

    private static void sums() {
        RowsOnlyPrimes x = Due.bank(THREE);
        due.plain(x, "waiting()", x::waiting, 17);
        due.plain(x, "purses(0)", () -> x.purses(0), 0);
        due.plain(x, "purses(5)", () -> x.purses(5), 25);
        due.plain(x, "purses(7)", () -> x.purses(7), 37);
    }

    private static void kinds() {
        RowsOnlyPrimes x = Due.bank("party 1 0 1 0;party 3 0 1 0;party 1 0 1 0;party 4 0 1 0;party 5 0 1 0");
        int[] want = {0, 2, 0, 1, 1, 1};
        for (int kind = 0; kind < 6; kind++) {
            int k = kind;
            due.plain(x, "ofKind(" + k + ")", () -> x.ofKind(k), want[k]);
        }
        due.refused(x, "ofKind(-1)", () -> x.ofKind(-1), BAD);
        due.refused(x, "ofKind(6)", () -> x.ofKind(6), BAD);
    }

    private static void badGroups() {
        RowsOnlyPrimes x = Due.bank(THREE);
        for (int group : new int[] {-1, 8, 9, 256, Integer.MIN_VALUE, Integer.MAX_VALUE}) {
            due.refused(x, "heads", () -> x.heads(group), BAD);
            due.refused(x, "hire", () -> x.hire(group), BAD);
            due.refused(x, "lacks", () -> x.lacks(group), BAD);
            due.refused(x, "fare", () -> x.fare(group), BAD);
            due.refused(x, "spare", () -> x.spare(group), BAD);
            due.refused(x, "purses", () -> x.purses(group), BAD);
        }
    }

    private static void badParties() {
        RowsOnlyPrimes x = Due.bank(THREE);
        for (int party : new int[] {-1, 3, 8, Integer.MIN_VALUE, Integer.MAX_VALUE}) {
            due.refused(x, "along", () -> x.along(party), BAD);
            due.refused(x, "cheapest", () -> x.cheapest(party), BAD);
            due.refused(x, "knot", () -> x.knot(party), BAD);
            due.refused(x, "fit", () -> x.fit(party), BAD);
            due.refused(x, "together", () -> x.together(party, 0), BAD);
            due.refused(x, "together", () -> x.together(0, party), BAD);
        }
        due.refused(x, "together of one", () -> x.together(1, 1), BAD);
    }
}
