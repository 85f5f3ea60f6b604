import java.lang.management.ManagementFactory;
import java.util.LinkedHashMap;
import java.util.Map;

/**
 * All calls of a run live in one room, and what they make stays in it. An element is a byte at least and an object
 * sixteen, so a run that makes no more bytes than the room has elements can't fill it.
 */
public final class RoomTest {
    private static final long ROOM = 7_300_000;
    // with those by which the bank comes to be, not above the 512 of an object
    private static final int CALLS = 340;
    private static final Due due = new Due();
    private static final com.sun.management.ThreadMXBean threads =
        (com.sun.management.ThreadMXBean) ManagementFactory.getThreadMXBean();

    public static void main(String[] args) {
        Map<String, Edges.Call> calls = new LinkedHashMap<>();
        dearCalls(calls);
        changingCalls(calls);
        calls.forEach(RoomTest::fits);
        due.end("RoomTest");
    }

    private static void dearCalls(Map<String, Edges.Call> calls) {
        calls.put("plan", x -> x.plan(0));
        calls.put("worth", x -> x.worth(0));
        calls.put("laws", x -> x.laws(-1));
        calls.put("rules", x -> x.rules());
        calls.put("sizes", x -> x.sizes());
        calls.put("loosen", x -> x.loosen());
        calls.put("time", x -> x.time());
        calls.put("many", x -> x.many());
        calls.put("stranded", x -> x.stranded());
        calls.put("fullest", x -> x.fullest(0));
        calls.put("cheapest", x -> x.cheapest(0));
        calls.put("together", x -> x.together(0, 1));
        calls.put("knot", x -> x.knot(0));
        calls.put("torn", x -> x.torn());
        calls.put("left", x -> x.left(400));
        calls.put("ways", x -> x.ways(60));
        calls.put("bids", x -> x.bids(0, 1, 1));
        calls.put("crossed", x -> x.crossed(0, 8, 0));
        calls.put("judge", x -> x.judge(1, 40));
        calls.put("behind", x -> x.behind(1, 40, 1));
    }

    private static void changingCalls(Map<String, Edges.Call> calls) {
        calls.put("days", x -> x.days(60));
        calls.put("row", x -> x.row(2, 3, 40));
        calls.put("copy", x -> x.copy(0, 0, 0, 1, 7));
        calls.put("image", x -> x.image());
        calls.put("back", x -> x.back());
        calls.put("feed", x -> x.feed(';'));
        calls.put("bank", x -> x.bank());
        calls.put("refused", x -> x.row(-1, 0, 0));
    }

    private static void fits(String name, Edges.Call call) {
        long ahead = threads.getThreadAllocatedBytes(Thread.currentThread().getId());
        RowsOnlyPrimes x = crowded();
        for (int made = 0; made < CALLS; made++) {
            call.on(x);
        }
        long made = threads.getThreadAllocatedBytes(Thread.currentThread().getId()) - ahead;
        due.is(name + ": too many bytes", made <= ROOM ? 0 : made, 0);
    }

    /** Eight who are few, some TIED, so that most groups may go; rows to be told by; an image. */
    private static RowsOnlyPrimes crowded() {
        RowsOnlyPrimes x = Due.bank("party 0 0 1 98" + ";party 0 0 1 99".repeat(7) + ";seats 99;law 1;hermits 9;tie 0 1;tie 2 3");
        Due.fill(x, 0, 2, 2, 2, 2, 2, 2, 2, 2, 2);
        x.row(1, 0, 40);
        x.image();
        return x;
    }
}
