import java.util.LinkedHashMap;
import java.util.Map;
import java.util.Set;
import java.util.TreeSet;
import java.util.function.IntFunction;
import java.util.function.Supplier;

/**
 * Holds single calls against the sentences of the document, each by the number of its promise. A call is made on
 * one of two objects that are alike; all that can be seen of the two then, THE TAPE and what an image keeps
 * among it, must differ by just what the call is to change.
 */
final class Edges {
    static final int BAD = -1002;
    static final int OTHER = -1003;
    static final int NOTHING = -1004;
    static final int STUCK = -1005;
    static final int FULL = -1006;
    static final int MIN = Integer.MIN_VALUE;
    static final int MAX = Integer.MAX_VALUE;
    private static final String[] REFUSALS = {"BAD", "OTHER", "NOTHING", "STUCK", "FULL"};
    private static final int PROMISES = 58;

    /** Which refusals the promises name; the others name none. */
    private static final String[] REFUSING = {
        "BAD 2 3 4 7 8 9 10 11 12 13 15 16 17 18 19 20 23 24 25 26 28 29 30 31 33 34 35 36 38 40 45 46 47 48 49 50 51 52 53 54",
        "OTHER 3 4 8 31 50 51",
        "NOTHING 3 4 8 31 50 51",
        "STUCK 23 24 25 35 38 51 52 53 54 57",
        "FULL 9 13"};

    interface Call {
        long on(RowsOnlyPrimes x);
    }

    private static final Due due = new Due();
    private static final int[] checked = new int[PROMISES + 1];
    private static final Set<String> refusedBy = new TreeSet<>();

    private Edges() {
    }

    // ---- scenes

    static Supplier<RowsOnlyPrimes> empty() {
        return RowsOnlyPrimes::new;
    }

    static Supplier<RowsOnlyPrimes> bank(String text) {
        return () -> Due.bank(text);
    }

    /** A scene, and calls that go ahead of the one that is looked at. */
    static Supplier<RowsOnlyPrimes> after(Supplier<RowsOnlyPrimes> scene, Call... calls) {
        return () -> {
            RowsOnlyPrimes x = scene.get();
            for (Call call : calls) {
                call.on(x);
            }
            return x;
        };
    }

    /** As many alike as are wanted, of SIZE 1. */
    static String crowd(int people) {
        return "party 0 0 1 0" + ";party 0 0 1 0".repeat(people - 1);
    }

    /**
     * Five of HEADS 4, 8, 6, 7, 3, one of them (2) OVER; 0 and 1 TIED, 1 and 2 SHUN each other; MINUTES 60, PAID 5,
     * CROSSINGS 2; an image with four of them, none OVER; THE TAPE a BANK; a ROW of longs, one of bytes, two
     * PARTIES, NOTHING, an empty ROW.
     */
    static Supplier<RowsOnlyPrimes> rich() {
        return () -> {
            RowsOnlyPrimes x = Due.bank("party 0 0 4 20;party 1 3 5 12;party 2 2 6 7;party 0 0 7 5;tie 0 1;shun 1 2;cost 5;seats 19");
            x.image();
            x.cross(4);
            x.cross(8);
            x.comesBack(3);
            x.party(5, 1, 2, 3);
            x.seed(77);
            Due.fill(x, 0, 3, 7, 8, 0, -1, 1L << 40);
            Due.fill(x, 1, 0, 1, 2, 3);
            x.show(2, 1);
            x.show(3, 4);
            x.row(5, 3, 0);
            Due.feed(x, "law 1;cost 3");
            return x;
        };
    }

    /** Eight PARTIES, THE TAPE full, each SHELF with a ROW of 40 bytes. */
    static Supplier<RowsOnlyPrimes> full() {
        return () -> {
            RowsOnlyPrimes x = new RowsOnlyPrimes();
            for (int i = 0; i < 8; i++) {
                x.party(i % 6, i, 1 + i, 90 + i);
                x.row(i, 0, 40);
                x.set(i, 39, 1 + i);
            }
            Due.feed(x, "law 1;".repeat(40) + "cost     3");
            return x;
        };
    }

    // ---- checks

    /** A call that answers what is due and changes nothing, no count of refusals either. */
    static void answers(int promise, String edge, Supplier<RowsOnlyPrimes> scene, Call call, long want) {
        changes(promise, edge, scene, call, want, "");
        again(promise, edge, scene, call, want);
    }

    /** A call that is refused: nothing changes but how many there were. */
    static void refused(int promise, String edge, Supplier<RowsOnlyPrimes> scene, Call call, int number) {
        String name = REFUSALS[BAD - number];
        long ahead = scene.get().status(12 + BAD - number);
        changes(promise, edge + " is " + name, scene, call, number, name + " = " + (ahead + 1));
        again(promise, edge, scene, call, number);
    }

    /** The same call refused for each of some numbers. */
    static void refusedFor(int promise, String what, Supplier<RowsOnlyPrimes> scene, IntFunction<Call> call, int number,
            int... values) {
        for (int v : values) {
            refused(promise, what + " " + v, scene, call.apply(v), number);
        }
    }

    /** The same call for each of some numbers, told in pairs: the number, and what is due. */
    static void answersFor(int promise, String what, Supplier<RowsOnlyPrimes> scene, IntFunction<Call> call, int... pairs) {
        for (int i = 0; i + 1 < pairs.length; i += 2) {
            answers(promise, what + " " + pairs[i], scene, call.apply(pairs[i]), pairs[i + 1]);
        }
    }

    /** A call that answers what is due and changes just what is told: "MINUTES = 80, OVER = 1". */
    static void changes(int promise, String edge, Supplier<RowsOnlyPrimes> scene, Call call, long want, String differences) {
        checked[promise]++;
        String label = "promise " + promise + ", " + edge;
        Map<String, String> changed = new LinkedHashMap<>();
        for (String difference : differences.isEmpty() ? new String[0] : differences.split(", ")) {
            int sign = difference.indexOf(" =");
            changed.put(difference.substring(0, sign), difference.substring(sign + 2).trim());
        }
        for (String refusal : REFUSALS) {
            if (changed.containsKey(refusal)) {
                refusedBy.add(refusal + " " + promise);
            }
        }
        for (int part = 0; part < PARTS; part++) {
            RowsOnlyPrimes called = scene.get();
            due.is(label, call.on(called), want);
            Map<String, String> then = seen(part, called);
            for (Map.Entry<String, String> before : seen(part, scene.get()).entrySet()) {
                String told = changed.remove(before.getKey());
                String expected = told == null ? before.getValue() : told;
                due.same(label + ", then " + before.getKey(), then.get(before.getKey()), expected);
            }
        }
        due.is(label + ": " + changed.keySet() + " can't be seen", changed.size(), 0);
    }

    private static void again(int promise, String edge, Supplier<RowsOnlyPrimes> scene, Call call, long want) {
        RowsOnlyPrimes x = scene.get();
        call.on(x);
        due.is("promise " + promise + ", " + edge + ", a second time", call.on(x), want);
    }

    static void is(int promise, String edge, long got, long want) {
        checked[promise]++;
        due.is("promise " + promise + ", " + edge, got, want);
    }

    /** Each promise has been looked at, and each refusal that a promise names. */
    static void end(String test) {
        for (int promise = 1; promise <= PROMISES; promise++) {
            due.is("promise " + promise + " has edges", checked[promise] > 0 ? 1 : 0, 1);
        }
        Set<String> named = new TreeSet<>();
        for (String line : REFUSING) {
            String[] words = line.split(" ");
            for (int i = 1; i < words.length; i++) {
                named.add(words[0] + " " + words[i]);
            }
        }
        due.same("refusals by promise", refusedBy.toString(), named.toString());
        due.end(test);
    }

    // ---- all that can be seen of an object

    private static final int PARTS = 5;
    private static final String[] STATUS = {"PARTIES", "SEATS", "LAW", "RULE", "HERMITS", "COST", "MINUTES", "PAID",
        "CROSSINGS", "OVER", "TAPE", "SEED", "BAD", "OTHER", "NOTHING", "STUCK", "FULL", "HELD"};
    private static final int[] KEPT = {0, 1, 2, 3, 4, 5, 6, 7, 8, 9, 11};

    // in parts, each for objects of their own: some calls change what they show, and an object has but 512 calls
    private static Map<String, String> seen(int part, RowsOnlyPrimes x) {
        Map<String, String> seen = new LinkedHashMap<>();
        switch (part) {
            case 0 -> seeBank(x, seen);
            case 1 -> seeElements(x, 0, seen);
            case 2 -> seeElements(x, 4, seen);
            case 3 -> seen.put("tape", tapeText(x));
            default -> seen.put("kept", x.back() == 1 ? bankText(x) : "nothing");
        }
        return seen;
    }

    private static void seeBank(RowsOnlyPrimes x, Map<String, String> seen) {
        for (int what = 0; what < STATUS.length; what++) {
            seen.put(STATUS[what], "" + x.status(what));
        }
        for (int p = 0; p < 8; p++) {
            seen.put("party " + p, p < x.status(0) ? partyText(x, p) : "none");
            seen.put("shelf " + p, "" + x.holds(p));
        }
    }

    private static void seeElements(RowsOnlyPrimes x, int first, Map<String, String> seen) {
        for (int s = first; s < first + 4; s++) {
            StringBuilder row = new StringBuilder();
            for (int i = 0; i <= 40; i++) {
                row.append(x.element(s, i)).append(' ');
            }
            seen.put("elements " + s, row.toString().replaceAll("( ?\\b0)* $", "").trim());
        }
    }

    /** What bank() says of it, and the LAW and the COST that it leaves. */
    private static String tapeText(RowsOnlyPrimes x) {
        return x.status(10) == 0 ? "empty" : x.bank() + " " + x.status(2) + " " + x.status(5);
    }

    private static String partyText(RowsOnlyPrimes x, int p) {
        StringBuilder text = new StringBuilder();
        for (int what = 0; what < 8; what++) {
            text.append(what == 0 ? "" : " ").append(x.partyOf(p, what));
        }
        return text.toString();
    }

    /** All that an image keeps. */
    static String bankText(RowsOnlyPrimes x) {
        StringBuilder text = new StringBuilder();
        for (int what : KEPT) {
            text.append(x.status(what)).append(' ');
        }
        for (int p = 0; p < x.status(0); p++) {
            text.append("/ ").append(partyText(x, p)).append(' ');
        }
        return text.toString().trim();
    }
}
