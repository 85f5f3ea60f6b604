import java.util.function.IntFunction;
import java.util.function.Supplier;

/** Edges of promises 52 to 58: crossings in truth, days by draws, images, status. */
final class TruthEdges {
    private static final int BAD = Edges.BAD;
    private static final int STUCK = Edges.STUCK;
    private static final int MIN = Edges.MIN;
    private static final int MAX = Edges.MAX;
    private static final Supplier<RowsOnlyPrimes> EMPTY = Edges.empty();
    private static final Supplier<RowsOnlyPrimes> RICH = Edges.rich();
    private static final Supplier<RowsOnlyPrimes> CROWDED = Edges.full();
    private static final Supplier<RowsOnlyPrimes> ALL_OVER = Edges.after(Edges.bank(Edges.crowd(8) + ";law 1"), x -> x.cross(255));
    private static final int[] NO_PARTIES = {-1, 5, 8, 31, MIN, MAX};

    private TruthEdges() {
    }

    static void run() {
        cross();
        comesBack();
        firstDays();
        drawsWrap();
        daysWithHire();
        dayRefusals();
        sixtyDays();
        seed();
        image();
        back();
        status();
        lastCall();
    }

    private static void cross() {
        IntFunction<Edges.Call> call = g -> x -> x.cross(g);
        Edges.changes(52, "with a hermit", RICH, call.apply(3), 1, "OVER = 7, CROSSINGS = 3, PAID = 10, MINUTES = 80, "
            + "party 0 = 0 0 4 20 4 1 2 0, party 1 = 1 3 5 12 8 1 1 4");
        Edges.changes(52, "without", RICH, call.apply(11), 0, "OVER = 15, CROSSINGS = 3, MINUTES = 80, "
            + "party 0 = 0 0 4 20 4 1 2 0, party 1 = 1 3 5 12 8 1 1 4, party 3 = 0 0 7 5 7 1 0 0");
        Edges.changes(52, "the most HIRE, the most COST", Edges.bank("party 0 0 27 0;law 3;seats 36;hermits 9;cost 9"), call.apply(1), 9,
            "OVER = 1, CROSSINGS = 1, PAID = 81, MINUTES = 20, party 0 = 0 0 27 0 27 1 0 0");
        Edges.changes(52, "the most HIRE, no COST", Edges.bank("party 0 0 27 0;law 3;seats 36;hermits 9;cost 0"), call.apply(1), 9,
            "OVER = 1, CROSSINGS = 1, MINUTES = 20, party 0 = 0 0 27 0 27 1 0 0");
        Edges.changes(52, "the eighth alone", Edges.after(ALL_OVER, x -> x.comesBack(7)), call.apply(128), 1,
            "OVER = 255, CROSSINGS = 2, PAID = 2, MINUTES = 60, party 7 = 0 0 1 0 1 1 0 0");
        StringBuilder all = new StringBuilder("OVER = 255, CROSSINGS = 1, MINUTES = 20");
        for (int p = 0; p < 8; p++) {
            all.append(", party ").append(p).append(" = 0 0 1 0 1 1 0 0");
        }
        Edges.changes(52, "all eight", Edges.bank(Edges.crowd(8) + ";law 1"), call.apply(255), 0, all.toString());
        Edges.refusedFor(52, "no HIRE: GROUP", RICH, call, STUCK, 0, 1, 2, 4, 12, 27, 31);
        Edges.refusedFor(52, "nobody of nobody: GROUP", EMPTY, call, STUCK, 0);
        Edges.refusedFor(52, "all are OVER: GROUP", ALL_OVER, call, STUCK, 0, 1, 128, 255);
        Edges.refusedFor(52, "GROUP", RICH, call, BAD, -1, 32, 35, 64, 256, MIN, MAX);
        Edges.refusedFor(52, "of eight, GROUP", CROWDED, call, BAD, -1, 256);
        Edges.refusedFor(52, "nobody is there, GROUP", EMPTY, call, BAD, -1, 1);
    }

    private static void comesBack() {
        IntFunction<Edges.Call> call = p -> x -> x.comesBack(p);
        Edges.changes(53, "one", RICH, call.apply(2), 80, "OVER = 0, MINUTES = 80, party 2 = 2 2 6 7 6 0 0 2");
        Edges.changes(53, "the first of eight", ALL_OVER, call.apply(0), 40, "OVER = 254, MINUTES = 40, party 0 = 0 0 1 0 1 0 0 0");
        Edges.changes(53, "the eighth", ALL_OVER, call.apply(7), 40, "OVER = 127, MINUTES = 40, party 7 = 0 0 1 0 1 0 0 0");
        Edges.changes(53, "TIED to others that are OVER", Edges.after(ALL_OVER, x -> x.bind(0, 1, 1)), call.apply(0), 40,
            "OVER = 254, MINUTES = 40, party 0 = 0 0 1 0 1 0 2 0");
        Edges.refusedFor(53, "it isn't OVER: PARTY", RICH, call, STUCK, 0, 1, 3, 4);
        Edges.refused(53, "it isn't OVER any more", Edges.after(RICH, x -> x.comesBack(2)), call.apply(2), STUCK);
        Edges.refusedFor(53, "PARTY", RICH, call, BAD, NO_PARTIES);
        Edges.refusedFor(53, "of eight, PARTY", ALL_OVER, call, BAD, -1, 8);
        Edges.refusedFor(53, "nobody is there, PARTY", EMPTY, call, BAD, -1, 0);
    }

    // ---- promise 54

    private static int seedAfter(int seed, int draws) {
        long now = seed & 0xffffffffL;
        for (int i = 0; i < draws; i++) {
            now = (now * 1103515245L + 12345L) % (1L << 32);
        }
        return (int) now;
    }

    private static int firstDraw(int seed) {
        return (int) ((seedAfter(seed, 1) & 0xffffffffL) / 65536);
    }

    /** The upper 16 bits behind SEED 1 are 16838, 38526, 10113, 50283, 63819, 38395, 55778, 40187. */
    private static void firstDays() {
        int[] upper = {16838, 38526, 10113, 50283, 63819, 38395, 55778, 40187};
        for (int i = 0; i < upper.length; i++) {
            Edges.is(54, "DRAW " + i + " as told by hand", firstDraw(seedAfter(1, i)), upper[i]);
        }
        Supplier<RowsOnlyPrimes> one = Edges.bank("party 0 0 2 0");
        Edges.changes(54, "it doesn't come, and isn't OVER", one, x -> x.days(1), 0, "MINUTES = 60, SEED = " + seedAfter(1, 2));
        Edges.changes(54, "then it crosses", one, x -> x.days(2), 1, "MINUTES = 140, OVER = 1, CROSSINGS = 1, SEED = " + seedAfter(1, 3)
            + ", party 0 = 0 0 2 0 2 1 0 0");
        Edges.changes(54, "then it comes back", one, x -> x.days(3), 1, "MINUTES = 220, CROSSINGS = 1, SEED = " + seedAfter(1, 4));
        Supplier<RowsOnlyPrimes> two = Edges.bank("party 0 0 2 0;party 0 0 3 0");
        Edges.changes(54, "two: nobody comes", two, x -> x.days(1), 0, "MINUTES = 60, SEED = " + seedAfter(1, 3));
        Edges.changes(54, "two: both cross", two, x -> x.days(2), 1, "MINUTES = 140, OVER = 3, CROSSINGS = 1, SEED = " + seedAfter(1, 5)
            + ", party 0 = 0 0 2 0 2 1 0 0, party 1 = 0 0 3 0 3 1 0 0");
        Edges.changes(54, "two: the second comes back", two, x -> x.days(3), 1, "MINUTES = 220, OVER = 1, CROSSINGS = 1, SEED = "
            + seedAfter(1, 6) + ", party 0 = 0 0 2 0 2 1 0 0");
        // of 0 and 2 the draws are 10113 and 50283: both come, and 1 has no draw
        Edges.changes(54, "no draw for one that is OVER", Edges.after(Edges.bank("party 0 0 2 0;party 0 0 7 0;party 0 0 3 0"), x -> x.cross(2),
            x -> x.seed(seedAfter(1, 2))), x -> x.days(1), 1, "MINUTES = 100, OVER = 7, CROSSINGS = 2, SEED = " + seedAfter(1, 4)
            + ", party 0 = 0 0 2 0 2 1 0 0, party 2 = 0 0 3 0 3 1 0 0");
    }

    /** All eight, or three, are OVER: one DRAW, of who comes back. */
    private static void drawsWrap() {
        int[][] draws = {{1, 16838}, {0, 0}, {-1, 48697}, {MAX, 15929}, {MIN, 32768}, {seedAfter(1, 1), 38526}, {seedAfter(1, 3), 50283}};
        Supplier<RowsOnlyPrimes> three = Edges.after(Edges.bank(Edges.crowd(3) + ";law 2"), x -> x.cross(7));
        for (int[] d : draws) {
            Edges.is(54, "SEED " + d[0] + ": its upper 16 bits, no sign", firstDraw(d[0]), d[1]);
            int ofEight = d[1] % 8;
            Edges.changes(54, "SEED " + d[0] + ": who of eight comes back", Edges.after(ALL_OVER, x -> x.seed(d[0])), x -> x.days(1), 0,
                "MINUTES = 100, OVER = " + (255 - (1 << ofEight)) + ", SEED = " + seedAfter(d[0], 1) + ", party " + ofEight
                + " = 0 0 1 0 1 0 0 0");
            int ofThree = d[1] % 3;
            Edges.changes(54, "SEED " + d[0] + ": who of three comes back", Edges.after(three, x -> x.seed(d[0])), x -> x.days(1), 0,
                "MINUTES = 100, OVER = " + (7 - (1 << ofThree)) + ", SEED = " + seedAfter(d[0], 1) + ", party " + ofThree
                + " = 0 0 1 0 1 0 0 0");
            Edges.changes(54, "SEED " + d[0] + ": whether one comes", Edges.after(Edges.bank("party 0 0 2 0"), x -> x.seed(d[0])), x -> x.days(1),
                d[1] % 2, d[1] % 2 == 0 ? "MINUTES = 60, SEED = " + seedAfter(d[0], 2)
                : "MINUTES = 80, OVER = 1, CROSSINGS = 1, SEED = " + seedAfter(d[0], 1) + ", party 0 = 0 0 2 0 2 1 0 0");
        }
        Edges.is(54, "SEED MIN wraps around", seedAfter(MIN, 1), MIN + 12345);
        Edges.is(54, "SEED 0", seedAfter(0, 1), 12345);
    }

    private static void daysWithHire() {
        // 10113 is odd: it comes
        int comes = seedAfter(1, 2);
        Edges.changes(54, "with a hermit, who is paid", Edges.after(Edges.bank("party 0 0 12 0;cost 9"), x -> x.seed(comes)), x -> x.days(1), 1,
            "MINUTES = 80, PAID = 9, OVER = 1, CROSSINGS = 1, SEED = " + seedAfter(comes, 1) + ", party 0 = 0 0 12 0 12 1 0 0");
        Edges.changes(54, "it comes and has no HIRE", Edges.after(Edges.bank("party 0 0 14 0"), x -> x.seed(comes)), x -> x.days(1), 0,
            "MINUTES = 60, SEED = " + seedAfter(comes, 2));
        // 10113 and 50283 are odd: both come; 63819 is: the second is drawn, and isn't OVER
        Edges.changes(54, "they come and SHUN each other", Edges.after(Edges.bank("party 0 0 2 0;party 0 0 3 0;shun 0 1"), x -> x.seed(comes)),
            x -> x.days(1), 0, "MINUTES = 60, SEED = " + seedAfter(comes, 3));
        // 16838 is even, 38526 too: nobody comes
        Edges.changes(54, "nobody comes, and nobody who is OVER is drawn", Edges.after(Edges.bank("party 0 0 2 0;party 0 0 3 0"),
            x -> x.cross(2)), x -> x.days(1), 0, "MINUTES = 80, SEED = " + seedAfter(1, 2));
    }

    private static void dayRefusals() {
        IntFunction<Edges.Call> call = n -> x -> x.days(n);
        Edges.refusedFor(54, "n", RICH, call, BAD, 0, 61, -1, MIN, MAX);
        Edges.refusedFor(54, "no PARTIES, n", EMPTY, call, STUCK, 1, 60);
        Edges.refusedFor(54, "ahead of STUCK, n", EMPTY, call, BAD, 0, 61, -1, MIN, MAX);
    }

    /** As many as sixty times one. */
    private static void sixtyDays() {
        for (int seed : new int[] {1, 0, -1, MIN, MAX, 77}) {
            for (Supplier<RowsOnlyPrimes> scene : java.util.List.of(RICH, CROWDED, ALL_OVER, Edges.bank("party 0 0 14 0"))) {
                RowsOnlyPrimes once = Edges.after(scene, x -> x.seed(seed)).get();
                RowsOnlyPrimes each = Edges.after(scene, x -> x.seed(seed)).get();
                int sum = 0;
                for (int day = 0; day < 60; day++) {
                    sum += each.days(1);
                }
                Edges.is(54, "n 60: how many GROUPS crossed", once.days(60), sum);
                Edges.is(54, "n 60: MINUTES", once.status(6), each.status(6));
                Edges.is(54, "n 60: all else", Edges.bankText(once).equals(Edges.bankText(each)) ? 1 : 0, 1);
            }
        }
        Edges.is(54, "n 60, none can go: nobody crosses", Edges.bank("party 0 0 14 0").get().days(60), 0);
        RowsOnlyPrimes none = Edges.bank("party 0 0 14 0").get();
        none.days(60);
        Edges.is(54, "n 60, none can go: MINUTES", none.status(6), 3600);
        Edges.is(54, "n 60, none can go: two draws a day", none.status(11), seedAfter(1, 120));
    }

    private static void seed() {
        for (int v : new int[] {MIN, MAX, 0, -1, 1, BAD, STUCK}) {
            Edges.changes(55, "SEED " + v, RICH, x -> x.seed(v), 77, "SEED = " + v);
            Edges.answers(55, "SEED " + v + " ahead", Edges.after(RICH, x -> x.seed(v)), x -> x.seed(v), v);
        }
        Edges.answers(55, "the same at first", EMPTY, x -> x.seed(1), 1);
    }

    private static void image() {
        Edges.changes(56, "all is kept", RICH, x -> x.image(), 1, "kept = " + Edges.bankText(RICH.get()));
        Edges.changes(56, "of nobody", EMPTY, x -> x.image(), 1, "kept = " + Edges.bankText(EMPTY.get()));
        Edges.changes(56, "of all eight", CROWDED, x -> x.image(), 1, "kept = " + Edges.bankText(CROWDED.get()));
        Edges.answers(56, "a second time", Edges.after(RICH, x -> x.image()), x -> x.image(), 1);
        Edges.changes(56, "a newer one", Edges.after(RICH, x -> x.image(), x -> x.cross(3)), x -> x.image(), 1,
            "kept = " + Edges.bankText(Edges.after(RICH, x -> x.cross(3)).get()));
        // what was kept doesn't change with what is
        Edges.Call[] changing = {x -> x.cross(3), x -> x.comesBack(2), x -> x.give(0, 0, 9), x -> x.give(0, 1, 9), x -> x.bind(0, 1, 2),
            x -> x.bind(0, 3, 1), x -> x.party(1, 1, 1, 1), x -> x.tell(0, 9), x -> x.tell(1, 1), x -> x.tell(2, 1), x -> x.tell(3, 1),
            x -> x.tell(4, 1), x -> x.days(9), x -> x.seed(5), x -> x.bank(), x -> x.row(0, 0, 1), x -> x.wipe(), x -> x.back()};
        for (Edges.Call call : changing) {
            RowsOnlyPrimes x = Edges.after(RICH, y -> y.image(), call).get();
            x.back();
            Edges.is(56, "what was kept stands", Edges.bankText(x).equals(Edges.bankText(RICH.get())) ? 1 : 0, 1);
        }
    }

    private static void back() {
        String again = "PARTIES = 4, party 4 = none, MINUTES = 0, PAID = 0, CROSSINGS = 0, OVER = 0, SEED = 1, shelf 3 = -1, HELD = 4, "
            + "party 2 = 2 2 6 7 6 0 0 2";
        Edges.changes(57, "all but THE TAPE, SHELVES and REFUSALS; one shown that is gone", RICH, x -> x.back(), 1, again);
        Edges.changes(57, "refusals that were counted then stand", Edges.after(RICH, x -> x.party(9, 9, 9, 9), x -> x.set(2, 0, 0),
            x -> x.set(4, 0, 0), x -> x.comesBack(0)), x -> x.back(), 1, again);
        Edges.answers(57, "a second time", Edges.after(RICH, x -> x.back()), x -> x.back(), 1);
        String told = "SEATS = 19, LAW = 0, RULE = 3, HERMITS = 3, COST = 5, ";
        Edges.changes(57, "what was told", Edges.after(RICH, x -> x.tell(0, 1), x -> x.tell(1, 1), x -> x.tell(2, 3), x -> x.tell(3, 0),
            x -> x.tell(4, 0)), x -> x.back(), 1, told + again);
        Edges.changes(57, "those that were there", Edges.after(RICH, x -> x.give(1, 0, 9), x -> x.give(1, 1, 9), x -> x.bind(1, 0, 2)),
            x -> x.back(), 1, "party 0 = 0 0 4 20 4 0 2 0, party 1 = 1 3 5 12 8 0 1 4, " + again);
        Edges.changes(57, "nobody was there: who is shown is gone", Edges.after(EMPTY, x -> x.image(), x -> x.party(0, 0, 1, 0),
            x -> x.show(0, 0), x -> x.show(7, 0), x -> x.row(3, 0, 1)), x -> x.back(), 1,
            "PARTIES = 0, party 0 = none, shelf 0 = -1, shelf 7 = -1, HELD = 1");
        Supplier<RowsOnlyPrimes> ninth = Edges.after(Edges.bank(Edges.crowd(7)), x -> x.image(), x -> x.party(0, 0, 1, 0),
            x -> x.show(0, 6), x -> x.show(1, 7));
        Edges.changes(57, "the last one that was there, and the first that wasn't", ninth, x -> x.back(), 1,
            "PARTIES = 7, party 7 = none, shelf 1 = -1, HELD = 1");
        Edges.changes(57, "one read from a text is gone", Edges.after(RICH, x -> x.wipe(), x -> Due.read(x, "party 0 0 1 0"), x -> x.show(7, 5)),
            x -> x.back(), 1, again + ", party 5 = none, shelf 7 = -1");
        Edges.answers(57, "a PARTY shown says as it was kept", Edges.after(RICH, x -> x.give(1, 1, 99), x -> x.back()), x -> x.says(2, 0), 12);
        Edges.changes(57, "there is room again", Edges.after(ninth, x -> x.back()), x -> x.party(0, 0, 1, 0), 7,
            "PARTIES = 8, party 7 = 0 0 1 0 1 0 0 0");
        Edges.changes(57, "a new one isn't TIED, SHUNNING nor OVER as one that is gone was", Edges.after(RICH, x -> x.bind(4, 0, 1),
            x -> x.bind(4, 1, 2), x -> x.cross(16), x -> x.back()), x -> x.party(0, 0, 1, 0), 4, "PARTIES = 5, party 4 = 0 0 1 0 1 0 0 0");
        Edges.refused(57, "nothing was kept", CROWDED, x -> x.back(), STUCK);
        Edges.refused(57, "nothing was kept, a second time", Edges.after(CROWDED, x -> x.back()), x -> x.back(), STUCK);
    }

    private static void status() {
        int[] want = {5, 19, 0, 3, 3, 5, 60, 5, 2, 4, 12, 77, 0, 0, 0, 0, 0, 5};
        for (int what = 0; what < want.length; what++) {
            int w = what;
            Edges.answers(58, "what " + what, RICH, x -> x.status(w), want[what]);
        }
        Edges.answersFor(58, "another what", RICH, v -> x -> x.status(v), -1, -1, 18, -1, 19, -1, MIN, -1, MAX, -1);
        Supplier<RowsOnlyPrimes> refused = Edges.after(RICH, x -> x.goes(-1), x -> x.set(2, 0, 0), x -> x.set(2, 0, 0), x -> x.set(4, 0, 0),
            x -> x.set(4, 0, 0), x -> x.set(4, 0, 0), x -> x.comesBack(0), x -> x.comesBack(0), x -> x.comesBack(0), x -> x.comesBack(0));
        Edges.answersFor(58, "REFUSALS, what", refused, v -> x -> x.status(v), 12, 1, 13, 2, 14, 3, 15, 4, 16, 0);
        Edges.answers(58, "FULL", Edges.after(CROWDED, x -> x.feed(0), x -> x.party(0, 0, 1, 0)), x -> x.status(16), 2);
        Edges.answersFor(58, "full, what", CROWDED, v -> x -> x.status(v), 0, 8, 10, 250, 17, 8);
        Edges.answersFor(58, "all are OVER, what", ALL_OVER, v -> x -> x.status(v), 9, 255);
        Edges.answersFor(58, "a seed below 0, what", Edges.after(RICH, x -> x.seed(MIN)), v -> x -> x.status(v), 11, MIN);
    }

    /** An object is used for 512 calls. */
    private static void lastCall() {
        RowsOnlyPrimes x = new RowsOnlyPrimes();
        for (int call = 1; call < 512; call++) {
            x.goes(-1);
        }
        Edges.is(58, "the 512th call", x.status(12), 511);
    }
}
