/** Promises 28 to 30: what is left, sums, bids. */
public final class NumbersTest {
    private static final int BAD = -1002;
    private static final Due due = new Due();

    public static void main(String[] args) {
        left();
        ways();
        bids();
        due.end("NumbersTest");
    }

    private static RowsOnlyPrimes boat(int seats, int law) {
        RowsOnlyPrimes x = new RowsOnlyPrimes();
        x.tell(0, seats);
        x.tell(1, law);
        return x;
    }

    private static void left() {
        for (int n = 0; n <= 400; n += n < 20 ? 1 : 19) {
            due.is("left(" + n + ") by primes", boat(13, 0).left(n), n == 1 ? 1 : 0);
            due.is("left(" + n + ") by twos", boat(2, 0).left(n), n % 2);
            due.is("left(" + n + ") in one seat", boat(1, 0).left(n), n);
            due.is("left(" + n + ") by even ones", boat(99, 1).left(n), n % 2);
            due.is("left(" + n + ") by odd ones", boat(99, 2).left(n), 0);
            due.is("left(" + n + ") by squares", boat(99, 3).left(n), 0);
        }
        RowsOnlyPrimes x = boat(1, 1);
        due.plain(x, "left(400)", () -> x.left(400), 400);
        due.plain(x, "left(0)", () -> x.left(0), 0);
        due.refused(x, "left(-1)", () -> x.left(-1), BAD);
        due.refused(x, "left(401)", () -> x.left(401), BAD);
    }

    private static void ways() {
        due.is("none go: 0 is one way", boat(1, 0).ways(0), 1);
        due.is("none go: 5", boat(1, 0).ways(5), 0);
        due.is("twos: 60", boat(2, 0).ways(60), 1);
        due.is("twos: 59", boat(2, 0).ways(59), 0);
        due.is("2 and 3: 60", boat(3, 0).ways(60), 11);
        due.is("2, 3, 5, 7: 10", boat(10, 0).ways(10), 5);
        due.is("1 and 4: 60", boat(4, 3).ways(60), 16);
        due.is("ones: 60", boat(1, 2).ways(60), 1);
        due.is("1 and 3: 10", boat(4, 2).ways(10), 4);
        due.is("2, 4, 6, 8: 8", boat(9, 1).ways(8), 5);
        // as many as there are partitions of 30
        due.is("even ones: 60", boat(99, 1).ways(60), 5604);
        RowsOnlyPrimes x = boat(13, 0);
        due.plain(x, "ways(1)", () -> x.ways(1), 0);
        due.plain(x, "ways(60)", () -> x.ways(60), 893);
        x.left(60);
        due.is("ways(60) behind a left", x.ways(60), 893);
        due.is("ways(60) again", x.ways(60), 893);
        due.is("left(60) behind it", x.left(60), 0);
        due.refused(x, "ways(-1)", () -> x.ways(-1), BAD);
        due.refused(x, "ways(61)", () -> x.ways(61), BAD);
    }

    private static void bids() {
        RowsOnlyPrimes x = Due.bank("party 0 0 1 0;party 0 0 1 0");
        int[][] purses = {{0, 0, 0}, {1, 0, 1}, {0, 1, 0}, {1, 1, 1}, {2, 2, 2}, {3, 3, 3}, {4, 4, 0}, {5, 5, 1},
            {7, 7, 3}, {8, 8, 0}, {98, 98, 2}, {99, 99, 3}, {4, 3, 1}, {3, 4, 0}, {99, 98, 1}, {98, 99, 0}, {2, 3, 0},
            {3, 2, 1}, {99, 0, 1}, {0, 99, 0}, {2, 1, 1}};
        for (int[] p : purses) {
            RowsOnlyPrimes two = Due.bank("party 0 0 1 " + p[0] + ";party 0 0 1 " + p[1]);
            String call = "bids of " + p[0] + " and " + p[1];
            due.plain(two, call, () -> two.bids(0, 1, 1), p[2]);
            due.plain(two, call, () -> two.bids(0, 1, 0), p[2] > 0 ? 1 : 0);
        }
        x.give(0, 1, 4);
        x.give(1, 1, 3);
        due.is("the other one first", x.bids(1, 0, 0), 0);
        int[][] bad = {{0, 0, 0}, {-1, 0, 0}, {0, -1, 0}, {2, 0, 0}, {0, 2, 0}, {0, 1, -1}, {0, 1, 2}};
        for (int[] b : bad) {
            due.refused(x, "bad bids", () -> x.bids(b[0], b[1], b[2]), BAD);
        }
    }
}
