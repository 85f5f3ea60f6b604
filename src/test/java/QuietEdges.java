import java.util.ArrayList;
import java.util.List;
import java.util.function.Supplier;

/**
 * Promises 16 to 51 change nothing: their calls answer the same whatever such calls were made ahead of them, and
 * however the bank came to be as it is.
 */
final class QuietEdges {
    private QuietEdges() {
    }

    static void run() {
        madeByCallsOrText();
        for (Supplier<RowsOnlyPrimes> scene : List.of(Edges.empty(), Edges.rich(), Edges.full(), Edges.bank(Edges.crowd(5)
                + ";law 1;seats 2;hermits 1;tie 0 4"), Edges.bank("party 0 0 14 0;party 1 3 5 9;tie 0 1"))) {
            List<Integer> promises = new ArrayList<>();
            List<Edges.Call> calls = new ArrayList<>();
            listCalls(promises, calls);
            long[] alone = new long[calls.size()];
            for (int i = 0; i < alone.length; i++) {
                alone[i] = calls.get(i).on(scene.get());
            }
            RowsOnlyPrimes up = scene.get();
            RowsOnlyPrimes down = scene.get();
            for (int i = 0; i < alone.length; i++) {
                Edges.is(promises.get(i), "behind the calls ahead of it in the list", calls.get(i).on(up), alone[i]);
                int k = alone.length - 1 - i;
                Edges.is(promises.get(k), "behind the calls behind it in the list", calls.get(k).on(down), alone[k]);
            }
        }
    }

    private static void madeByCallsOrText() {
        Supplier<RowsOnlyPrimes> byText = Edges.bank("party 0 0 4 20;party 1 3 5 12;party 2 2 6 7;party 4 4 3 2;party 3 1 6 30;tie 0 1;"
            + "tie 3 4;shun 1 2;seats 23;law 1;rule 1;hermits 2;cost 7");
        Supplier<RowsOnlyPrimes> byCalls = Edges.after(Edges.empty(), x -> x.party(0, 0, 4, 20), x -> x.party(1, 3, 5, 12),
            x -> x.party(2, 2, 6, 7), x -> x.party(4, 4, 3, 2), x -> x.party(3, 1, 6, 30), x -> x.bind(0, 1, 1), x -> x.bind(3, 4, 1),
            x -> x.bind(1, 2, 2), x -> x.tell(0, 23), x -> x.tell(1, 1), x -> x.tell(2, 1), x -> x.tell(3, 2), x -> x.tell(4, 7));
        List<Integer> promises = new ArrayList<>();
        List<Edges.Call> calls = new ArrayList<>();
        listCalls(promises, calls);
        for (int i = 0; i < calls.size(); i++) {
            Edges.is(promises.get(i), "by calls as by a text", calls.get(i).on(byCalls.get()), calls.get(i).on(byText.get()));
        }
    }

    private static void listCalls(List<Integer> promises, List<Edges.Call> calls) {
        for (int v = -2; v < 5; v++) {
            int n = v;
            add(promises, calls, 24, x -> x.plan(n));
            add(promises, calls, 26, x -> x.laws(n));
            add(promises, calls, 25, x -> x.worth(n));
            add(promises, calls, 28, x -> x.left(100 * n));
            add(promises, calls, 29, x -> x.ways(15 * n));
            add(promises, calls, 31, x -> x.crossed(0, n, n & 1));
            add(promises, calls, 50, x -> x.judge(1, n));
            add(promises, calls, 51, x -> x.behind(1, n, n & 1));
            add(promises, calls, 30, x -> x.bids(n, n + 1, 1));
            add(promises, calls, 23, x -> x.along(n));
            add(promises, calls, 35, x -> x.cheapest(n));
            add(promises, calls, 36, x -> x.knot(n));
            add(promises, calls, 38, x -> x.fit(n));
            add(promises, calls, 45, x -> x.together(n, 1));
            add(promises, calls, 16, x -> x.partyOf(n, 4));
            add(promises, calls, 49, x -> x.ofKind(n));
            add(promises, calls, 8, x -> x.says(2, n));
        }
        for (int v = -1; v < 9; v++) {
            int group = v;
            add(promises, calls, 17, x -> x.heads(group));
            add(promises, calls, 20, x -> x.hire(group));
            add(promises, calls, 33, x -> x.lacks(group));
            add(promises, calls, 40, x -> x.fare(group));
            add(promises, calls, 46, x -> x.spare(group));
            add(promises, calls, 47, x -> x.purses(group));
            add(promises, calls, 18, x -> x.goes(group));
            add(promises, calls, 19, x -> x.next(group));
            add(promises, calls, 48, x -> x.before(group));
        }
        add(promises, calls, 21, x -> x.many());
        add(promises, calls, 22, x -> x.stranded());
        add(promises, calls, 27, x -> x.sizes());
        add(promises, calls, 32, x -> x.numbers());
        add(promises, calls, 34, x -> x.fullest(0));
        add(promises, calls, 34, x -> x.fullest(1));
        add(promises, calls, 37, x -> x.torn());
        add(promises, calls, 39, x -> x.rules());
        add(promises, calls, 41, x -> x.waiting());
        add(promises, calls, 42, x -> x.time());
        add(promises, calls, 43, x -> x.loosen());
        add(promises, calls, 44, x -> x.alone());
        add(promises, calls, 29, x -> x.ways(60));
        add(promises, calls, 28, x -> x.left(399));
        add(promises, calls, 29, x -> x.ways(59));
        add(promises, calls, 42, x -> x.time());
    }

    private static void add(List<Integer> promises, List<Edges.Call> calls, int promise, Edges.Call call) {
        promises.add(promise);
        calls.add(call);
    }
}
