/** Promises 9 to 16: parties, what is told of the bank, the tape. */
public final class BankTest {
    private static final int BAD = -1002;
    private static final int FULL = -1006;
    private static final Due due = new Due();

    public static void main(String[] args) {
        parties();
        given();
        bound();
        told();
        fed();
        banks();
        allOrNothing();
        afterOtherCalls();
        faults();
        room();
        ofParties();
        due.end("BankTest");
    }

    private static void parties() {
        RowsOnlyPrimes x = new RowsOnlyPrimes();
        int[][] bad = {{-1, 0, 1, 0}, {6, 0, 1, 0}, {0, -1, 1, 0}, {0, 10, 1, 0}, {0, 0, 0, 0}, {0, 0, 41, 0},
            {0, 0, 1, -1}, {0, 0, 1, 100}};
        for (int[] b : bad) {
            due.refused(x, "bad party", () -> x.party(b[0], b[1], b[2], b[3]), BAD);
        }
        for (int p = 0; p < 8; p++) {
            int number = p;
            due.plain(x, "party " + p, () -> x.party(number % 6, 9 - number, 40, 99), p);
        }
        due.is("status(0)", x.status(0), 8);
        due.refused(x, "a ninth", () -> x.party(0, 0, 1, 0), FULL);
        due.refused(x, "a bad ninth", () -> x.party(6, 0, 1, 0), BAD);
        due.is("status(0)", x.status(0), 8);
    }

    private static void given() {
        RowsOnlyPrimes x = Due.bank("party 1 2 3 4");
        due.plain(x, "give(0, 0, 40)", () -> x.give(0, 0, 40), 3);
        due.plain(x, "give(0, 0, 1)", () -> x.give(0, 0, 1), 40);
        due.plain(x, "give(0, 1, 99)", () -> x.give(0, 1, 99), 4);
        due.plain(x, "give(0, 1, 0)", () -> x.give(0, 1, 0), 99);
        int[][] bad = {{1, 0, 1}, {-1, 0, 1}, {0, 2, 1}, {0, -1, 1}, {0, 0, 0}, {0, 0, 41}, {0, 1, -1}, {0, 1, 100}};
        for (int[] b : bad) {
            due.refused(x, "bad give", () -> x.give(b[0], b[1], b[2]), BAD);
        }
        due.is("as given", x.partyOf(0, 2) * 100 + x.partyOf(0, 3), 100);
    }

    private static void bound() {
        RowsOnlyPrimes x = Due.bank("party 0 0 1 0;party 0 0 1 0;party 0 0 1 0");
        due.plain(x, "bind(0, 1, 1)", () -> x.bind(0, 1, 1), 0);
        due.plain(x, "bind(1, 0, 2)", () -> x.bind(1, 0, 2), 1);
        due.is("no ties", x.partyOf(0, 6) + x.partyOf(1, 6), 0);
        due.is("shuns", x.partyOf(0, 7) * 10 + x.partyOf(1, 7), 21);
        due.plain(x, "bind(0, 1, 2)", () -> x.bind(0, 1, 2), 2);
        due.plain(x, "bind(0, 1, 1)", () -> x.bind(0, 1, 1), 2);
        due.is("ties", x.partyOf(0, 6) * 10 + x.partyOf(1, 6), 21);
        due.is("no shuns", x.partyOf(0, 7) + x.partyOf(1, 7), 0);
        due.plain(x, "bind(1, 2, 1)", () -> x.bind(1, 2, 1), 0);
        due.is("two ties", x.partyOf(1, 6), 5);
        due.plain(x, "bind(1, 0, 0)", () -> x.bind(1, 0, 0), 1);
        due.plain(x, "bind(0, 1, 0)", () -> x.bind(0, 1, 0), 0);
        due.is("the other tie stands", x.partyOf(1, 6) * 10 + x.partyOf(2, 6), 42);
        int[][] bad = {{0, 0, 1}, {-1, 0, 1}, {0, -1, 1}, {3, 0, 1}, {0, 3, 1}, {0, 1, -1}, {0, 1, 3}};
        for (int[] b : bad) {
            due.refused(x, "bad bind", () -> x.bind(b[0], b[1], b[2]), BAD);
        }
    }

    private static void told() {
        RowsOnlyPrimes x = new RowsOnlyPrimes();
        int[] first = {13, 0, 3, 3, 2};
        int[] least = {1, 0, 0, 0, 0};
        int[] most = {99, 3, 3, 9, 9};
        for (int what = 0; what < 5; what++) {
            int w = what;
            due.plain(x, "tell least", () -> x.tell(w, least[w]), first[what]);
            due.plain(x, "tell most", () -> x.tell(w, most[w]), least[what]);
            due.refused(x, "tell less", () -> x.tell(w, least[w] - 1), BAD);
            due.refused(x, "tell more", () -> x.tell(w, most[w] + 1), BAD);
            due.is("status", x.status(1 + what), most[what]);
        }
        due.refused(x, "tell(-1, 1)", () -> x.tell(-1, 1), BAD);
        due.refused(x, "tell(5, 1)", () -> x.tell(5, 1), BAD);
        due.refused(x, "tell(MAX, 1)", () -> x.tell(Integer.MAX_VALUE, 1), BAD);
    }

    private static void fed() {
        RowsOnlyPrimes x = new RowsOnlyPrimes();
        due.refused(x, "feed(-1)", () -> x.feed(-1), BAD);
        due.refused(x, "feed(256)", () -> x.feed(256), BAD);
        for (int n = 1; n <= 250; n++) {
            int letter = n % 2 == 0 ? 0 : 255;
            int size = n;
            due.is("feed " + n, x.feed(letter), size);
        }
        due.refused(x, "feed a full tape", () -> x.feed(0), FULL);
        due.refused(x, "feed a full tape badly", () -> x.feed(256), BAD);
        due.is("status(10)", x.status(10), 250);
        due.plain(x, "wipe()", x::wipe, 250);
        due.plain(x, "wipe() again", x::wipe, 0);
        due.is("feed again", x.feed(97), 1);
        due.is("status(10)", x.status(10), 1);
    }

    private static void banks() {
        RowsOnlyPrimes x = new RowsOnlyPrimes();
        Due.feed(x, "  party0 9 40 99;party 5 00 01 09 ; tie 1 0;seats7;law 3;rule 1; hermits 0;cost 9;free 0 1 ;shun 1 0  ");
        due.plain(x, "bank()", x::bank, 10);
        int[][] want = {{0, 9, 40, 99, 40, 0, 0, 2}, {5, 0, 1, 9, 1, 0, 0, 1}};
        for (int p = 0; p < 2; p++) {
            for (int what = 0; what < 8; what++) {
                due.is("partyOf(" + p + ", " + what + ")", x.partyOf(p, what), want[p][what]);
            }
        }
        int[] status = {2, 7, 3, 1, 0, 9, 0, 0, 0, 0, 0};
        for (int what = 0; what < status.length; what++) {
            due.is("status(" + what + ")", x.status(what), status[what]);
        }
        due.is("a second bank comes to the first", Due.read(x, "party 3 2 6 5;tie 2 0"), 2);
        due.is("three", x.status(0), 3);
        due.is("tied", x.partyOf(0, 6) * 10 + x.partyOf(2, 6), 41);
        due.is("shun stands", x.partyOf(0, 7), 2);
        due.is("seats stand", x.status(1), 7);
        due.is("tie over a shun", Due.read(x, "tie 0 1"), 1);
        due.is("no shun", x.partyOf(0, 7) * 10 + x.partyOf(0, 6), 6);
        due.is("free frees", Due.read(x, "free 1 0;free 0 2") * 10 + x.partyOf(0, 6), 20);
    }

    private static void allOrNothing() {
        RowsOnlyPrimes x = Due.bank("party 0 0 1 0;party 0 0 2 0;tie 0 1");
        Due.feed(x, "seats 5;law 2;rule 0;hermits 9;cost 0;party 0 0 1 0;free 0 1;shun 0 2;shun 0 3");
        due.is("bank()", x.bank(), -2000 - 77);
        int[] status = {2, 13, 0, 3, 3, 2};
        for (int what = 0; what < status.length; what++) {
            due.is("status(" + what + ")", x.status(what), status[what]);
        }
        due.is("refused as bad", x.status(12), 1);
        due.is("tape empty", x.status(10), 0);
        due.is("tie stands", x.partyOf(0, 6), 2);
        due.is("no shun", x.partyOf(0, 7), 0);
    }

    private static void afterOtherCalls() {
        RowsOnlyPrimes x = new RowsOnlyPrimes();
        x.party(0, 0, 1, 0);
        x.party(5, 0, 1, 0);
        x.tell(0, 20);
        x.cross(2);
        x.seed(9);
        due.is("a bank that ties those of other calls", Due.read(x, "tie 0 1"), 1);
        due.is("seats stand", x.status(1), 20);
        due.is("the seed stands", x.status(11), 9);
        due.is("tied", x.partyOf(0, 6), 2);
        RowsOnlyPrimes y = Due.bank("party 0 0 5 0;party 0 0 6 0");
        y.cross(1);
        due.is("a bank after a crossing", Due.read(y, "cost 1"), 1);
        due.is("what was done stands", y.status(6) * 100 + y.status(8) * 10 + y.status(9), 2011);
    }

    private static void faults() {
        String[] texts = {"", "   ", ";", "party", "party 0", "party 0 0 1", "party 0 0 1 ", "seats 5;", "seats 5; ",
            "seats 5 6", "seats 5 seats 6", "seats 5;;seats 6", "Seats 5", "seats 5#", "seats#5", "seats -5", "seat 5",
            "seatss 5", "seats 100", "seats 013", "seats 05", "seats a", "5", "seats;5", "seats 0", "seats 00", "law 4",
            "rule 4", "hermits 10", "cost 10", "tie 0 0", "tie 0 2", "tie 2 0", "tie 0", "tie 0 ;", "shun 1 1", "free 1 1",
            "shun 0 2", "free 2 1", "party 6 0 1 0", "party 0 10 1 0", "party 0 0 0 0", "party 0 0 41 0", "party 0 0 1 100",
            "party 0 0 1 000", "party 0 0 1 0 0", "law 1 ,", "tie 01 00", "party 0 0 1 0;tie 2 0", "tie 1 1 1", "partytie 0 1",
            "cost 1;cost 11;cost 3#", "free 0 1;free", "tie\t0 1", "lie 0 1", "shin 0 1", "tree 0 1", "sexts 3", "liw 1", "rust 1",
            "kermits 1", "most 1", "marty 0 0 1 0", "party 0 0 1 99;party 0 0 1 999"};
        int[] answers = {0, 3, 0, 5, 7, 11, 12, 8, 9,
            8, 8, 8, 0, 7, 5, 6, 0,
            0, 6, 6, 1, 6, 0, 5, 6, 6, 4,
            5, 8, 5, 6, 6, 4, 5, 6, 7, 7,
            7, 5, 6, 8, 10, 10, 12,
            12, 14, 6, 1, 2, 6, 0,
            12, 13, 3, 0, 0, 0, 0, 0, 0,
            0, 0, 0, 27};
        // these are no faults: so many statements
        java.util.Set<String> banks = java.util.Set.of("seats 05", "tie 01 00", "party 0 0 1 0;tie 2 0");
        for (int i = 0; i < texts.length; i++) {
            RowsOnlyPrimes x = Due.bank("party 0 0 1 0;party 0 0 1 0");
            int want = banks.contains(texts[i]) ? answers[i] : -2000 - answers[i];
            Due.feed(x, texts[i]);
            due.is("bank() of '" + texts[i] + "'", x.bank(), want);
            due.is("status(12) of '" + texts[i] + "'", x.status(12), want < 0 ? 1 : 0);
            due.is("status(10) of '" + texts[i] + "'", x.status(10), 0);
        }
    }

    private static void room() {
        RowsOnlyPrimes x = new RowsOnlyPrimes();
        due.is("eight", Due.read(x, "party 0 0 1 0;".repeat(7) + "party 0 0 1 0"), 8);
        due.is("no ninth: its word", Due.read(x, " party 9"), -2001);
        due.is("no ninth: its word", Due.read(x, "seats 9; party 0 0 1 0"), -2009);
        due.is("seats stand", x.status(1), 13);
        RowsOnlyPrimes y = new RowsOnlyPrimes();
        due.is("nine", Due.read(y, "party 0 0 1 0;".repeat(8) + "party 0 0 1 0"), -2000 - 8 * 14);
        due.is("nobody came", y.status(0), 0);
        due.is("a full tape", Due.read(new RowsOnlyPrimes(), ";".repeat(250)), -2000);
        due.is("250 bytes", Due.read(new RowsOnlyPrimes(), "law 1;".repeat(41) + "cos "), -2000 - 246);
        due.is("250 bytes too short", Due.read(new RowsOnlyPrimes(), "law 1;".repeat(41) + "cost"), -2250);
    }

    private static void ofParties() {
        RowsOnlyPrimes x = Due.bank("party 3 4 6 3;party 0 0 7 1;party 2 5 8 2;tie 0 1;shun 0 2;hermits 9");
        int[] want = {3, 4, 6, 3, 5, 0, 2, 4};
        for (int what = 0; what < 8; what++) {
            int w = what;
            due.plain(x, "partyOf(0, " + what + ")", () -> x.partyOf(0, w), want[what]);
        }
        x.cross(4);
        due.is("over", x.partyOf(2, 5), 1);
        due.is("not over", x.partyOf(1, 5), 0);
        x.tell(2, 0);
        due.is("mothers without babies", x.partyOf(0, 4), 3);
        due.is("a flock without beasts", x.partyOf(2, 4), 5);
        int[][] bad = {{-1, 0}, {3, 0}, {0, -1}, {0, 8}};
        for (int[] b : bad) {
            due.refused(x, "bad partyOf", () -> x.partyOf(b[0], b[1]), BAD);
        }
    }
}
