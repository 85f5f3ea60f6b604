/** Promises 31, 50 and 51: crossings and days that are told by rows. */
public final class ToldTest {
    private static final int BAD = -1002;
    private static final int OTHER = -1003;
    private static final int NOTHING = -1004;
    private static final int STUCK = -1005;
    // heads 4, 6, 7
    private static final String THREE = "party 0 0 4 20;party 0 0 6 12;party 0 0 7 5";
    private static final Due due = new Due();

    public static void main(String[] args) {
        crossed();
        crossedByTiesAndOver();
        crossedByEight();
        oddRows();
        days();
        daysWithTies();
        refusals();
        due.end("ToldTest");
    }

    private static void crossed(RowsOnlyPrimes x, int ways, int first, long... numbers) {
        Due.fill(x, 5, 3, numbers);
        due.plain(x, "crossed, ways", () -> x.crossed(5, numbers.length, 0), ways);
        due.plain(x, "crossed, first", () -> x.crossed(5, numbers.length, 1), first);
        due.is("nobody crossed", x.status(8), 0);
    }

    private static void crossed() {
        RowsOnlyPrimes x = Due.bank(THREE);
        crossed(x, 1, -1);
        crossed(x, 1, 1, 5, 13);
        crossed(x, 1, 6, 13, 5);
        crossed(x, 3, 1, 7);
        crossed(x, 6, 1, 7, 7);
        crossed(x, 6, 1, 7, 7, 7);
        crossed(x, 0, -1, 7, 7, 7, 7);
        crossed(x, 2, 3, 11);
        // 11 is {0, 1} with 1, or {0, 2}; then 7 is who stays
        crossed(x, 2, 3, 11, 7);
        crossed(x, 2, 2, 7, 11);
        crossed(x, 0, -1, 4);
        crossed(x, 0, -1, 7, 4);
        crossed(x, 0, -1, 0);
        crossed(x, 0, -1, -7);
        crossed(x, 0, -1, 17);
        crossed(x, 0, -1, 7 + (1L << 32));
        crossed(x, 0, -1, Long.MIN_VALUE);
        crossed(x, 0, -1, Long.MAX_VALUE);
        x.tell(3, 0);
        crossed(x, 1, 4, 7);
        crossed(x, 0, -1, 5);
        x.tell(3, 9);
        crossed(x, 6, 1, 13);
        due.is("the first of two numbers", x.row(5, 0, 2) + x.set(5, 0, 7) + x.set(5, 1, 4), 3);
        due.is("the first number alone", x.crossed(5, 1, 0), 3);
        due.is("none of them", x.crossed(5, 0, 0) * 10 + x.crossed(5, 0, 1), 9);
    }

    private static void crossedByTiesAndOver() {
        RowsOnlyPrimes x = Due.bank(THREE + ";tie 0 1");
        crossed(x, 1, 4, 7);
        crossed(x, 1, 3, 11);
        crossed(x, 1, 3, 11, 7);
        x.bind(0, 1, 2);
        crossed(x, 1, 5, 11);
        crossed(x, 3, 1, 7);
        RowsOnlyPrimes y = Due.bank(THREE + ";tie 0 1");
        y.cross(3);
        y.comesBack(0);
        Due.fill(y, 5, 3, 7);
        due.is("its tied one is over", y.crossed(5, 1, 0), 2);
        due.is("it is the first", y.crossed(5, 1, 1), 1);
        RowsOnlyPrimes most = Due.bank("party 0 0 40 0;party 0 0 40 0;party 0 0 19 0;seats 99;law 2;hermits 0");
        crossed(most, 1, 7, 99);
        crossed(most, 0, -1, 100);
        RowsOnlyPrimes none = new RowsOnlyPrimes();
        crossed(none, 0, -1, 2);
        crossed(none, 1, -1);
        RowsOnlyPrimes nobody = Due.bank("party 2 0 1 0;rule 0;party 0 0 1 0");
        // 0 heads with 2 hermits, 0 and 1 with 1, 1 with 1
        crossed(nobody, 3, 1, 2);
    }

    private static void crossedByEight() {
        RowsOnlyPrimes x = Due.bank("party 0 0 1 0;".repeat(7) + "party 0 0 1 0;law 2;hermits 0");
        crossed(x, 40320, 1, 1, 1, 1, 1, 1, 1, 1, 1);
        // who goes by three: 8 over 3, then one of five
        crossed(x, 280, 7, 3, 1);
        crossed(x, 280, 1, 1, 3);
    }

    private static void oddRows() {
        RowsOnlyPrimes x = Due.bank("party 0 0 1 0;law 2;hermits 0");
        Due.fill(x, 0, 4, 77);
        due.is("booleans are numbers", x.crossed(0, 1, 0), 1);
        due.is("booleans are groups", x.judge(0, 1), -1);
        Due.fill(x, 1, 0, 257);
        due.is("bytes", x.crossed(1, 1, 1) * 10 + x.judge(1, 1), 9);
    }

    private static void day(RowsOnlyPrimes x, int wrong, int over, int hermits, long... groups) {
        Due.fill(x, 5, 3, groups);
        due.plain(x, "judge", () -> x.judge(5, groups.length), wrong);
        if (wrong == -1) {
            due.plain(x, "behind, over", () -> x.behind(5, groups.length, 0), over);
            due.plain(x, "behind, hermits", () -> x.behind(5, groups.length, 1), hermits);
        } else {
            due.refused(x, "behind, over", () -> x.behind(5, groups.length, 0), STUCK);
            due.refused(x, "behind, hermits", () -> x.behind(5, groups.length, 1), STUCK);
        }
    }

    private static void days() {
        RowsOnlyPrimes x = Due.bank(THREE);
        day(x, -1, 0, 0);
        day(x, -1, 7, 1, 1, 6);
        day(x, -1, 7, 2, 2, 1, 4);
        day(x, -1, 3, 2, 1, 2);
        day(x, 1, 0, 0, 1, 1);
        day(x, 1, 0, 0, 1, 3);
        day(x, 0, 0, 0, 0);
        day(x, 0, 0, 0, 7);
        day(x, 0, 0, 0, 8);
        day(x, 0, 0, 0, -1);
        day(x, 2, 0, 0, 4, 2, 1L << 32 | 1, 99);
        day(x, 1, 0, 0, 4, Long.MIN_VALUE);
        day(x, 1, 0, 0, 4, Long.MAX_VALUE);
        x.cross(4);
        day(x, -1, 4, 0);
        day(x, -1, 7, 1, 3);
        day(x, 0, 0, 0, 6);
        due.is("nothing changed", x.status(9) * 10 + x.status(8), 41);
        due.is("the first two of three", x.row(5, 1, 40) + x.set(5, 0, 1) + x.set(5, 1, 2) + x.judge(5, 2), 2);
        due.is("all forty", x.judge(5, 40), 2);
        due.is("behind two", x.behind(5, 2, 0), 7);
    }

    private static void daysWithTies() {
        RowsOnlyPrimes x = Due.bank(THREE + ";tie 0 1;shun 1 2");
        day(x, 0, 0, 0, 1);
        day(x, -1, 7, 1, 3, 4);
        day(x, 1, 0, 0, 4, 2);
        day(x, 0, 0, 0, 6);
        x.cross(3);
        x.comesBack(1);
        day(x, -1, 3, 1, 2);
    }

    private static void refusals() {
        RowsOnlyPrimes x = Due.bank(THREE);
        Due.fill(x, 0, 2, 1, 1, 1, 1, 1, 1, 1, 1, 1);
        Due.fill(x, 1, 2, 1, 2);
        x.show(2, 0);
        int[][] bad = {{-1, 1, 0}, {8, 1, 0}, {1, -1, 0}, {2, -1, 0}, {3, -1, 1}, {0, Integer.MAX_VALUE, 0}, {1, 3, 0}};
        for (int[] b : bad) {
            due.refused(x, "crossed", () -> x.crossed(b[0], b[1], b[2]), BAD);
            due.refused(x, "judge", () -> x.judge(b[0], b[1]), BAD);
            due.refused(x, "behind", () -> x.behind(b[0], b[1], b[2]), BAD);
        }
        for (int what : new int[] {-1, 2}) {
            for (int s = 1; s < 4; s++) {
                int shelf = s;
                due.refused(x, "crossed", () -> x.crossed(shelf, 1, what), BAD);
                due.refused(x, "behind", () -> x.behind(shelf, 1, what), BAD);
            }
        }
        due.refused(x, "crossed by 9", () -> x.crossed(0, 9, 0), BAD);
        due.refused(x, "crossed by 9 of a party", () -> x.crossed(2, 9, 0), BAD);
        due.plain(x, "crossed by 8", () -> x.crossed(0, 8, 0), 0);
        due.refused(x, "judge by 41", () -> x.judge(3, 41), BAD);
        due.refused(x, "behind by 41", () -> x.behind(2, 41, 0), BAD);
        due.refused(x, "judge by 10 of 9", () -> x.judge(0, 10), BAD);
        due.plain(x, "judge by 9", () -> x.judge(0, 9), 1);
        due.refused(x, "crossed of a party", () -> x.crossed(2, 8, 0), OTHER);
        due.refused(x, "judge of a party", () -> x.judge(2, 40), OTHER);
        due.refused(x, "behind of a party", () -> x.behind(2, 0, 0), OTHER);
        due.refused(x, "crossed of nothing", () -> x.crossed(3, 0, 0), NOTHING);
        due.refused(x, "judge of nothing", () -> x.judge(3, 40), NOTHING);
        due.refused(x, "behind of nothing", () -> x.behind(3, 40, 1), NOTHING);
    }
}
