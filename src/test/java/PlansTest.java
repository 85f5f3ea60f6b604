/** Promises 24 to 27, 39, 42 and 43: plans, what one is worth, other laws, seats, rules and ties. */
public final class PlansTest {
    private static final int BAD = -1002;
    private static final int STUCK = -1005;
    // heads 4, 6, 7
    private static final String THREE = "party 0 0 4 20;party 0 0 6 12;party 0 0 7 5";
    private static final Due due = new Due();

    public static void main(String[] args) {
        nobody();
        plans();
        fewestThenLeast();
        noPlan();
        worth();
        laws();
        sizes();
        rules();
        loosened();
        due.end("PlansTest");
    }

    private static void plan(RowsOnlyPrimes x, int hermits, int... groups) {
        due.plain(x, "plan(-2)", () -> x.plan(-2), groups.length);
        due.plain(x, "plan(NONE)", () -> x.plan(-1), hermits);
        for (int i = 0; i < groups.length; i++) {
            int place = i;
            due.plain(x, "plan(" + i + ")", () -> x.plan(place), groups[i]);
        }
        due.refused(x, "plan behind the last", () -> x.plan(groups.length), STUCK);
        due.refused(x, "plan far behind the last", () -> x.plan(Integer.MAX_VALUE), STUCK);
        due.plain(x, "time()", x::time, 20 * groups.length);
        due.refused(x, "plan(-3)", () -> x.plan(-3), BAD);
        due.refused(x, "plan(MIN)", () -> x.plan(Integer.MIN_VALUE), BAD);
    }

    private static void nobody() {
        RowsOnlyPrimes x = new RowsOnlyPrimes();
        plan(x, 0);
        due.plain(x, "laws(NONE)", () -> x.laws(-1), 0);
        due.plain(x, "laws(2)", () -> x.laws(2), 0);
        due.plain(x, "sizes()", x::sizes, 1);
        due.plain(x, "rules()", x::rules, 0);
        due.plain(x, "loosen()", x::loosen, -1);
        x.party(0, 0, 2, 0);
        x.cross(1);
        plan(x, 0);
        due.is("all are over: one seat does", x.sizes(), 1);
    }

    private static void plans() {
        RowsOnlyPrimes x = Due.bank(THREE);
        plan(x, 1, 1, 6);
        x.tell(0, 17);
        plan(x, 0, 7);
        x.tell(0, 16);
        x.bind(1, 2, 2);
        plan(x, 1, 2, 5);
        x.bind(0, 1, 1);
        plan(x, 1, 3, 4);
        x.bind(0, 2, 2);
        x.bind(0, 1, 2);
        plan(x, 2, 1, 2, 4);
        x.cross(2);
        plan(x, 1, 1, 4);
        RowsOnlyPrimes eight = Due.bank("party 0 0 7 0;".repeat(7) + "party 0 0 7 0;seats 7");
        plan(eight, 0, 1, 2, 4, 8, 16, 32, 64, 128);
        eight.tell(0, 14);
        eight.tell(1, 1);
        // 14 go, 7 and a hermit too: pairs, the first by rows
        plan(eight, 0, 3, 12, 48, 192);
        eight.tell(0, 99);
        plan(eight, 0, 255);
    }

    private static void fewestThenLeast() {
        due.is("time() as the first call", Due.bank(THREE).time(), 40);
        due.is("worth(2) as the first call", Due.bank(THREE + ";seats 17").worth(2), 1);
        due.is("plan(0) as the first call", Due.bank(THREE).plan(0), 1);
        // 3 and 8: 11 in one crossing, 1 hermit more than none; in two: 3, and 8 with 3
        RowsOnlyPrimes x = Due.bank("party 0 0 3 0;party 0 0 5 0;party 0 0 7 0");
        // together 15; pairs: 8 with 3, 10 with 1, 12 with 1; the single ones without
        plan(x, 1, 1, 6);
        x.tell(0, 99);
        // 15 with 2 is 17: fewer crossings go before fewer hermits
        plan(x, 2, 7);
        x.tell(3, 1);
        plan(x, 1, 1, 6);
        x.tell(3, 0);
        plan(x, 0, 1, 2, 4);
        // two plans of two crossings with no hermits: (1, 2 and 3), (2 and 1, 3): the first by rows
        RowsOnlyPrimes y = Due.bank("party 0 0 4 0;party 0 0 6 0;party 0 0 5 0;party 0 0 7 0;seats 13;law 2;hermits 0");
        // 4 with 5 (9), 4 with 7 (11), 6 with 5 (11), 6 with 7 (13)
        plan(y, 0, 5, 10);
        y.bind(0, 2, 2);
        plan(y, 0, 6, 9);
    }

    private static void noPlan() {
        RowsOnlyPrimes x = Due.bank(THREE + ";seats 6");
        for (int i : new int[] {-2, -1, 0, 1, 7, Integer.MAX_VALUE}) {
            due.plain(x, "no plan(" + i + ")", () -> x.plan(i), -1);
        }
        due.plain(x, "no time()", x::time, -1);
        due.refused(x, "plan(-3)", () -> x.plan(-3), BAD);
        due.is("law of fewest, of no plans", x.laws(-1), 0);
        due.is("rule of fewest, of no plans", x.rules(), 0);
        x.bind(1, 2, 1);
        x.bind(0, 2, 1);
        due.is("first of the ties, of no plans", x.loosen(), 2);
    }

    private static void worth() {
        RowsOnlyPrimes x = Due.bank(THREE);
        due.plain(x, "worth(0)", () -> x.worth(0), -1);
        due.plain(x, "worth(1)", () -> x.worth(1), -1);
        due.plain(x, "worth(2)", () -> x.worth(2), 0);
        x.tell(0, 17);
        due.plain(x, "worth(2): 17 needs none, 10 needs 1", () -> x.worth(2), 1);
        x.tell(0, 6);
        due.plain(x, "worth without a plan", () -> x.worth(1), -1000);
        x.tell(0, 13);
        x.bind(0, 1, 1);
        x.bind(1, 2, 2);
        due.is("its tied one may go without it", x.worth(0), 0);
        x.bind(1, 2, 0);
        x.bind(0, 1, 0);
        due.refused(x, "worth(3)", () -> x.worth(3), BAD);
        due.refused(x, "worth(-1)", () -> x.worth(-1), BAD);
        x.cross(4);
        due.refused(x, "worth of one over", () -> x.worth(2), STUCK);
        due.is("it is over still, the others aren't", x.status(9), 4);
        RowsOnlyPrimes y = Due.bank("party 0 0 1 0;party 0 0 1 0;hermits 0");
        due.is("without it there is no plan", y.worth(1), -1000);
        RowsOnlyPrimes z = Due.bank("party 0 0 4 0;party 0 0 7 0;hermits 0");
        due.is("without one there is none, without the other one", z.worth(1) + z.worth(0), -1000);
    }

    private static void laws() {
        RowsOnlyPrimes x = Due.bank(THREE);
        int[] want = {2, 2, 2, 3};
        for (int law = 0; law < 4; law++) {
            int l = law;
            due.plain(x, "laws(" + l + ")", () -> x.laws(l), want[l]);
        }
        due.plain(x, "laws(NONE)", () -> x.laws(-1), 0);
        due.is("the law stands", x.status(2), 0);
        x.tell(3, 0);
        int[] without = {-1, -1, -1, -1};
        for (int law = 0; law < 4; law++) {
            int l = law;
            due.plain(x, "laws(" + l + ") without hermits", () -> x.laws(l), without[l]);
        }
        x.give(2, 0, 3);
        x.bind(0, 1, 2);
        x.bind(0, 2, 2);
        x.bind(1, 2, 2);
        // 4, 6, 3 apart: only even and squares take a 4, none takes all
        due.is("no law has a plan", x.laws(-1), 0);
        x.give(2, 0, 8);
        due.is("by even ones alone", x.laws(-1), 1);
        x.give(0, 0, 9);
        x.give(1, 0, 3);
        x.give(2, 0, 5);
        due.is("by odd ones alone", x.laws(-1), 2);
        x.give(0, 0, 9);
        x.give(1, 0, 4);
        x.give(2, 0, 1);
        due.is("by squares alone", x.laws(-1), 3);
        due.refused(x, "laws(-2)", () -> x.laws(-2), BAD);
        due.refused(x, "laws(4)", () -> x.laws(4), BAD);
    }

    private static void sizes() {
        RowsOnlyPrimes x = Due.bank(THREE);
        due.plain(x, "sizes()", x::sizes, 7);
        due.is("seats stand", x.status(1), 13);
        x.tell(0, 1);
        due.is("sizes() whatever the seats", x.sizes(), 7);
        x.bind(0, 1, 1);
        due.is("tied: 11", x.sizes(), 11);
        x.bind(1, 2, 1);
        due.is("all tied: 17", x.sizes(), 17);
        x.bind(1, 2, 2);
        x.bind(0, 2, 1);
        due.plain(x, "torn: none", x::sizes, -1);
        RowsOnlyPrimes y = Due.bank("party 0 0 40 0;party 0 0 40 0;party 0 0 17 0;tie 0 1;tie 1 2");
        due.is("97", y.sizes(), 97);
        y.give(2, 0, 18);
        due.is("98 can't", y.sizes(), -1);
        y.tell(1, 2);
        due.is("99", y.sizes(), 99);
        RowsOnlyPrimes z = Due.bank("party 0 0 1 0;law 2");
        due.is("one", z.sizes(), 1);
    }

    private static void rules() {
        RowsOnlyPrimes x = Due.bank(THREE);
        due.plain(x, "rules(): all alike", x::rules, 0);
        RowsOnlyPrimes y = Due.bank("party 1 2 5 0;party 2 1 6 0;hermits 0");
        // heads by rule: 5 and 1, 7 and 1, 5 and 6, 7 and 6; together 6, 8, 11, 13
        due.plain(y, "rules(): fewest crossings, of two the least", y::rules, 2);
        due.is("the rule stands", y.status(3), 3);
        RowsOnlyPrimes z = Due.bank("party 1 2 5 0;party 2 1 8 0;hermits 3;seats 99");
        // 6 with 1, 8 with 3, 13 with 0, 15 with 2
        due.is("rules(): then least hermits", z.rules(), 2);
        RowsOnlyPrimes v = Due.bank("party 1 3 4 0;hermits 0;rule 2");
        due.is("rules(): babies", v.rules(), 1);
    }

    private static void loosened() {
        RowsOnlyPrimes x = Due.bank(THREE + ";tie 1 2;seats 19");
        due.plain(x, "loosen(): one", x::loosen, 12);
        x.bind(0, 2, 1);
        due.is("of two alike the first by numbers", x.loosen(), 2);
        x.tell(0, 11);
        // free 0 2: 4 with 1, 13 can't; free 1 2: 11 goes, 6 with 1
        due.is("by which there is a plan", x.loosen(), 12);
        due.is("the ties stand", x.partyOf(2, 6), 3);
        RowsOnlyPrimes y = Due.bank("party 0 0 3 0;party 0 0 6 0;party 0 0 5 0;tie 0 1;tie 1 2;seats 11");
        // free 0 1: 3, and 11; free 1 2: 9 with 2, and 5
        due.is("by least hermits", y.loosen(), 1);
        RowsOnlyPrimes z = Due.bank("party 0 0 5 0;party 0 0 6 0;party 0 0 3 0;tie 0 1;tie 1 2;seats 11");
        due.is("by least hermits, the other way", z.loosen(), 12);
        RowsOnlyPrimes s = Due.bank(THREE + ";shun 0 1");
        due.is("shunning is no tie", s.loosen(), -1);
    }
}
