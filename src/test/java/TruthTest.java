/** Promises 52 to 58: crossings in truth, days by draws, images, status. */
public final class TruthTest {
    private static final int BAD = -1002;
    private static final int STUCK = -1005;
    // heads 4, 6, 7
    private static final String THREE = "party 0 0 4 20;party 0 0 6 12;party 0 0 7 5";
    private static final Due due = new Due();

    public static void main(String[] args) {
        crossings();
        draws();
        dayRefusals();
        seeds();
        images();
        imagedShelves();
        statuses();
        due.end("TruthTest");
    }

    private static void state(RowsOnlyPrimes x, int minutes, int paid, int crossings, int over) {
        due.is("MINUTES", x.status(6), minutes);
        due.is("PAID", x.status(7), paid);
        due.is("CROSSINGS", x.status(8), crossings);
        due.is("OVER", x.status(9), over);
    }

    private static void crossings() {
        RowsOnlyPrimes x = Due.bank(THREE + ";cost 5");
        due.plain(x, "cross(1)", () -> x.cross(1), 1);
        state(x, 20, 5, 1, 1);
        due.refused(x, "cross(1) again", () -> x.cross(1), STUCK);
        due.refused(x, "cross(3)", () -> x.cross(3), STUCK);
        due.refused(x, "cross(0)", () -> x.cross(0), STUCK);
        due.refused(x, "cross(8)", () -> x.cross(8), BAD);
        due.refused(x, "cross(-1)", () -> x.cross(-1), BAD);
        state(x, 20, 5, 1, 1);
        due.plain(x, "cross(6)", () -> x.cross(6), 0);
        state(x, 40, 5, 2, 7);
        due.plain(x, "comesBack(2)", () -> x.comesBack(2), 60);
        state(x, 60, 5, 2, 3);
        due.refused(x, "comesBack(2) again", () -> x.comesBack(2), STUCK);
        due.refused(x, "comesBack(3)", () -> x.comesBack(3), BAD);
        due.refused(x, "comesBack(-1)", () -> x.comesBack(-1), BAD);
        due.plain(x, "comesBack(0)", () -> x.comesBack(0), 80);
        state(x, 80, 5, 2, 2);
        x.tell(4, 9);
        due.is("cross(1)", x.cross(1), 1);
        state(x, 100, 14, 3, 3);
    }

    // told by hand: the upper 16 bits of the seeds behind 1 are 16838, 38526, 10113, 50283, 63819, 38395, 55778, 40187
    private static void draws() {
        RowsOnlyPrimes x = Due.bank("party 0 0 2 0;party 0 0 3 0");
        due.plain(x, "days(1)", () -> x.days(1), 0);
        // 0 and 0: nobody comes; then 10113 modulo 2 is 1: it isn't over
        state(x, 60, 0, 0, 0);
        due.is("three draws", x.status(11), seedAfter(1, 3));
        due.plain(x, "days(1)", () -> x.days(1), 1);
        // 50283 and 63819: both come, 5
        state(x, 140, 0, 1, 3);
        due.is("five draws", x.status(11), seedAfter(1, 5));
        due.plain(x, "days(1)", () -> x.days(1), 0);
        // nobody is there; 38395 modulo 2 is 1: it comes back
        state(x, 220, 0, 1, 1);
        due.is("six draws", x.status(11), seedAfter(1, 6));
        due.plain(x, "days(1)", () -> x.days(1), 0);
        // 55778: it doesn't come; 40187 modulo 2 is 1: it isn't over
        state(x, 280, 0, 1, 1);
        due.is("eight draws", x.status(11), seedAfter(1, 8));
        RowsOnlyPrimes y = Due.bank("party 0 0 2 0;party 0 0 3 0");
        due.is("days(4)", y.days(4), 1);
        state(y, 280, 0, 1, 1);
        RowsOnlyPrimes z = Due.bank("party 0 0 8 0;hermits 3;cost 4");
        z.seed(seedAfter(1, 3));
        due.is("with hermits who are paid", z.days(1), 1);
        state(z, 80, 12, 1, 1);
        RowsOnlyPrimes v = Due.bank("party 0 0 8 0;hermits 2");
        v.seed(seedAfter(1, 3));
        due.is("it comes and can't go", v.days(1), 0);
        state(v, 60, 0, 0, 0);
        due.is("two draws", v.status(11), seedAfter(1, 5));
    }

    private static int seedAfter(int seed, int draws) {
        int now = seed;
        for (int i = 0; i < draws; i++) {
            now = now * 1103515245 + 12345;
        }
        return now;
    }

    private static void dayRefusals() {
        RowsOnlyPrimes x = new RowsOnlyPrimes();
        due.refused(x, "days(0)", () -> x.days(0), BAD);
        due.refused(x, "days(61)", () -> x.days(61), BAD);
        due.refused(x, "days(-1)", () -> x.days(-1), BAD);
        due.refused(x, "days(1) of nobody", () -> x.days(1), STUCK);
        state(x, 0, 0, 0, 0);
        due.is("no draw", x.status(11), 1);
        x.party(0, 0, 40, 0);
        due.plain(x, "days(60)", () -> x.days(60), 0);
        due.is("minutes", x.status(6), 3600);
    }

    private static void seeds() {
        RowsOnlyPrimes x = new RowsOnlyPrimes();
        due.plain(x, "seed(MIN)", () -> x.seed(Integer.MIN_VALUE), 1);
        due.plain(x, "seed(-1002)", () -> x.seed(-1002), Integer.MIN_VALUE);
        due.plain(x, "seed(5)", () -> x.seed(5), -1002);
        due.is("status(11)", x.status(11), 5);
    }

    private static void images() {
        RowsOnlyPrimes x = Due.bank(THREE + ";tie 0 1;shun 0 2");
        due.refused(x, "back() to nothing", x::back, STUCK);
        x.seed(77);
        x.cross(4);
        due.plain(x, "image()", x::image, 1);
        x.comesBack(2);
        x.give(0, 0, 9);
        x.give(1, 1, 9);
        x.bind(0, 1, 2);
        x.bind(1, 2, 1);
        x.party(1, 1, 1, 1);
        for (int what = 0; what < 5; what++) {
            x.tell(what, 1);
        }
        x.days(3);
        x.seed(5);
        x.feed(97);
        x.party(9, 9, 9, 9);
        int bad = x.status(12);
        due.plain(x, "back()", x::back, 1);
        int[] status = {3, 13, 0, 3, 3, 2, 20, 0, 1, 4, 1, 77, bad};
        for (int what = 0; what < status.length; what++) {
            due.is("status(" + what + ") again", x.status(what), status[what]);
        }
        int[][] want = {{0, 0, 4, 20, 4, 0, 2, 4}, {0, 0, 6, 12, 6, 0, 1, 0}, {0, 0, 7, 5, 7, 1, 0, 1}};
        for (int p = 0; p < 3; p++) {
            for (int what = 0; what < 8; what++) {
                due.is("partyOf(" + p + ", " + what + ") again", x.partyOf(p, what), want[p][what]);
            }
        }
        x.party(0, 0, 1, 0);
        due.is("a new one is nobody's", x.partyOf(3, 6) + x.partyOf(3, 7) + x.partyOf(3, 5), 0);
        due.is("back() a second time", x.back() * 10 + x.status(0), 13);
        x.cross(3);
        x.image();
        x.comesBack(0);
        x.cross(1);
        state(x, 80, 4, 3, 7);
        due.is("the newer image", x.back() * 10 + x.status(9), 17);
        state(x, 40, 2, 2, 7);
    }

    private static void imagedShelves() {
        RowsOnlyPrimes x = Due.bank(THREE);
        Due.fill(x, 0, 2, 5);
        x.show(1, 2);
        x.image();
        x.party(0, 0, 1, 0);
        x.show(2, 3);
        x.show(4, 3);
        x.show(7, 3);
        x.show(1, 1);
        x.set(0, 0, 6);
        x.give(1, 1, 33);
        x.row(3, 1, 0);
        due.is("status(17)", x.status(17), 6);
        x.back();
        due.is("more who are gone", x.holds(4) + x.holds(7), -2);
        x.show(0, 2);
        x.image();
        x.party(0, 0, 1, 0);
        x.show(0, 3);
        x.back();
        due.is("one on the first shelf that is gone", x.holds(0), -1);
        Due.fill(x, 0, 2, 6);
        due.is("a row stays as it is", x.element(0, 0), 6);
        due.is("a new row stays", x.holds(3), 1);
        due.is("one of the same number", x.holds(1), 11);
        due.is("as it was kept", x.says(1, 0), 12);
        due.is("one that is gone", x.holds(2), -1);
        due.is("status(17)", x.status(17), 3);
    }

    private static void statuses() {
        RowsOnlyPrimes x = new RowsOnlyPrimes();
        x.party(9, 0, 0, 0);
        x.row(9, 0, 0);
        x.says(0, 0);
        x.back();
        x.back();
        x.back();
        x.row(0, 0, 0);
        x.copy(0, 0, 1, 0, 0);
        x.party(0, 0, 1, 0);
        x.show(1, 0);
        x.set(1, 0, 0);
        x.judge(1, 0);
        for (int i = 0; i < 251; i++) {
            x.feed(';');
        }
        int[] want = {3, 2, 1, 3, 1, 2};
        for (int i = 0; i < want.length; i++) {
            due.is("status(" + (12 + i) + ")", x.status(12 + i), want[i]);
        }
        due.is("a bad bank", x.bank(), -2000);
        due.is("is refused too", x.status(12), 4);
        for (int what : new int[] {-1, 18, Integer.MIN_VALUE, Integer.MAX_VALUE}) {
            due.plain(x, "status of another", () -> x.status(what), -1);
        }
    }
}
