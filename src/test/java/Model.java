import java.util.ArrayList;
import java.util.Arrays;
import java.util.HashMap;
import java.util.List;
import java.util.Map;
import java.util.regex.Matcher;
import java.util.regex.Pattern;

/** The document once more, as literally as can be and with no thought of speed. */
final class Model {
    static final int NONE = -1;
    static final int BAD = -1002;
    static final int OTHER = -1003;
    static final int NOTHING = -1004;
    static final int STUCK = -1005;
    static final int FULL = -1006;

    record Party(int kind, int a, int size, int purse) { }

    /** What an image keeps. */
    static final class State {
        final List<Party> parties = new ArrayList<>();
        final boolean[] over = new boolean[8];
        // 0 neither, 1 tied, 2 shun
        final int[][] bonds = new int[8][8];
        final int[] told = {13, 0, 3, 3, 2};
        int minutes;
        int paid;
        int crossings;
        int seed = 1;

        State copy() {
            State s = new State();
            s.parties.addAll(parties);
            System.arraycopy(over, 0, s.over, 0, 8);
            for (int i = 0; i < 8; i++) {
                s.bonds[i] = bonds[i].clone();
            }
            System.arraycopy(told, 0, s.told, 0, 5);
            s.minutes = minutes;
            s.paid = paid;
            s.crossings = crossings;
            s.seed = seed;
            return s;
        }

        int overBits() {
            int bits = 0;
            for (int p = 0; p < 8; p++) {
                bits |= over[p] ? 1 << p : 0;
            }
            return bits;
        }

        int all() {
            return (1 << parties.size()) - 1;
        }

        static boolean in(int p, int group) {
            return (group & 1 << p) != 0;
        }

        int heads(Party p) {
            boolean babies = (told[2] & 1) != 0;
            boolean beasts = (told[2] & 2) != 0;
            return switch (p.kind) {
                case 1 -> p.size + (babies ? p.a : 0);
                case 2 -> beasts ? p.size : p.a;
                case 3 -> (int) Math.ceil(heads(new Party(1, p.a, p.size, 0)) / 2.0);
                case 4 -> heads(new Party(2, p.a, p.size, 0)) + 1;
                case 5 -> p.size + p.a;
                default -> p.size;
            };
        }

        int headsOf(int group) {
            int sum = 0;
            for (int p = 0; p < parties.size(); p++) {
                sum += in(p, group) ? heads(parties.get(p)) : 0;
            }
            return sum;
        }

        boolean goes(long n) {
            if (n < 1 || n > told[0]) {
                return false;
            }
            if (told[1] == 1) {
                return n % 2 == 0;
            }
            if (told[1] == 2) {
                return n % 2 != 0;
            }
            int divisors = 0;
            boolean square = false;
            for (long d = 1; d <= n; d++) {
                divisors += n % d == 0 ? 1 : 0;
                square |= d * d == n;
            }
            return told[1] == 3 ? square : divisors == 2;
        }

        boolean may(int group, long h, int overBits) {
            if (group == 0 || (group & ~all()) != 0) {
                return false;
            }
            for (int p = 0; p < parties.size(); p++) {
                for (int q = 0; q < parties.size(); q++) {
                    if (in(p, group) && in(p, overBits)) {
                        return false;
                    }
                    if (in(p, group) && in(q, group) && bonds[p][q] == 2) {
                        return false;
                    }
                    if (in(p, group) && bonds[p][q] == 1 && !in(q, group) && !in(q, overBits)) {
                        return false;
                    }
                }
            }
            return goes(headsOf(group) + h);
        }

        int hire(int group, int overBits, int most) {
            for (int h = 0; h <= most; h++) {
                if (may(group, h, overBits)) {
                    return h;
                }
            }
            return NONE;
        }

        int hire(int group) {
            return hire(group, overBits(), told[3]);
        }

        /** Crossings, hermits, then the groups; null if there is no plan. */
        int[] plan(int overBits) {
            return plan(overBits, new HashMap<>());
        }

        private int[] plan(int overBits, Map<Integer, int[]> known) {
            if (overBits == all()) {
                return new int[] {0, 0};
            }
            if (known.containsKey(overBits)) {
                return known.get(overBits);
            }
            int[] best = null;
            for (int group = 1; group <= all(); group++) {
                int hire = (group & overBits) != 0 ? NONE : hire(group, overBits, told[3]);
                int[] rest = hire == NONE ? null : plan(overBits | group, known);
                if (rest != null) {
                    int[] mine = new int[rest.length + 1];
                    mine[0] = rest[0] + 1;
                    mine[1] = rest[1] + hire;
                    mine[2] = group;
                    System.arraycopy(rest, 2, mine, 3, rest.length - 2);
                    if (best == null || Arrays.compare(mine, best) < 0) {
                        best = mine;
                    }
                }
            }
            known.put(overBits, best);
            return best;
        }

        int[] plan() {
            return plan(overBits());
        }

        int draw(int n) {
            seed = seed * 1103515245 + 12345;
            return (int) ((seed & 0xffffffffL) / 65536 % n);
        }
    }

    State s = new State();
    State image;
    final List<Integer> tape = new ArrayList<>();
    // null, long[] or Integer (a party)
    final Object[] shelves = new Object[8];
    final int[] sorts = new int[8];
    final int[] refusals = new int[5];

    long refuse(int number) {
        refusals[-1002 - number]++;
        return number;
    }

    boolean shelf(int i) {
        return i >= 0 && i < 8;
    }

    boolean party(int p) {
        return p >= 0 && p < s.parties.size();
    }

    boolean group(int g) {
        return g >= 0 && (g & ~s.all()) == 0;
    }

    static boolean in(long v, long least, long most) {
        return v >= least && v <= most;
    }

    long row(int i, int sort, int n) {
        if (!shelf(i) || !in(sort, 0, 4) || !in(n, 0, 40)) {
            return refuse(BAD);
        }
        shelves[i] = new long[n];
        sorts[i] = sort;
        return 1;
    }

    long set(int i, int place, long v) {
        if (!shelf(i)) {
            return refuse(BAD);
        }
        if (shelves[i] instanceof Integer) {
            return refuse(OTHER);
        }
        if (shelves[i] == null) {
            return refuse(NOTHING);
        }
        long[] row = (long[]) shelves[i];
        if (!in(place, 0, row.length - 1)) {
            return refuse(BAD);
        }
        row[place] = switch (sorts[i]) {
            case 0 -> (byte) v;
            case 1 -> (short) v;
            case 2 -> (int) v;
            case 3 -> v;
            default -> v == 0 ? 0 : 1;
        };
        return 1;
    }

    long copy(int p, int q, int i, int j, int n) {
        if (!shelf(p) || !shelf(q)) {
            return refuse(BAD);
        }
        if (shelves[p] instanceof Integer || shelves[q] instanceof Integer) {
            return refuse(OTHER);
        }
        if (shelves[p] != null && shelves[q] != null && sorts[p] != sorts[q]) {
            return refuse(OTHER);
        }
        if (shelves[p] == null || shelves[q] == null) {
            return refuse(NOTHING);
        }
        long[] from = (long[]) shelves[p];
        long[] to = (long[]) shelves[q];
        if (i < 0 || j < 0 || n < 0 || (long) i + n > from.length || (long) j + n > to.length) {
            return refuse(BAD);
        }
        long[] were = from.clone();
        for (int k = 0; k < n; k++) {
            to[j + k] = were[i + k];
        }
        return n;
    }

    long element(int i, int place) {
        if (!shelf(i) || !(shelves[i] instanceof long[] row) || !in(place, 0, row.length - 1)) {
            return 0;
        }
        return row[place];
    }

    long holds(int i) {
        if (!shelf(i) || shelves[i] == null) {
            return NONE;
        }
        return shelves[i] instanceof Integer p ? 10 + p : sorts[i];
    }

    long show(int i, int p) {
        if (!shelf(i) || p != NONE && !party(p)) {
            return refuse(BAD);
        }
        shelves[i] = p == NONE ? null : (Object) p;
        return 1;
    }

    long says(int i, int kind) {
        if (!shelf(i) || !in(kind, 0, 5)) {
            return refuse(BAD);
        }
        if (shelves[i] == null) {
            return refuse(NOTHING);
        }
        if (!(shelves[i] instanceof Integer)) {
            return refuse(OTHER);
        }
        Party p = s.parties.get((Integer) shelves[i]);
        String[] lines = {"0", "01", "02", "013", "024", "05"};
        if (lines[p.kind].indexOf('0' + kind) < 0) {
            return refuse(OTHER);
        }
        return kind == 0 ? p.purse : s.heads(p);
    }

    long party(int kind, int a, int size, int purse) {
        if (!in(kind, 0, 5) || !in(a, 0, 9) || !in(size, 1, 40) || !in(purse, 0, 99)) {
            return refuse(BAD);
        }
        if (s.parties.size() == 8) {
            return refuse(FULL);
        }
        s.parties.add(new Party(kind, a, size, purse));
        return s.parties.size() - 1;
    }

    long give(int p, int what, int v) {
        if (!party(p) || !in(what, 0, 1) || !(what == 0 ? in(v, 1, 40) : in(v, 0, 99))) {
            return refuse(BAD);
        }
        Party was = s.parties.get(p);
        s.parties.set(p, new Party(was.kind, was.a, what == 0 ? v : was.size, what == 1 ? v : was.purse));
        return what == 0 ? was.size : was.purse;
    }

    long bind(int p, int q, int how) {
        if (!party(p) || !party(q) || p == q || !in(how, 0, 2)) {
            return refuse(BAD);
        }
        int was = s.bonds[p][q];
        s.bonds[p][q] = how;
        s.bonds[q][p] = how;
        return was;
    }

    static final int[][] TOLD = {{1, 99}, {0, 3}, {0, 3}, {0, 9}, {0, 9}};

    long tell(int what, int v) {
        if (!in(what, 0, 4) || !in(v, TOLD[what][0], TOLD[what][1])) {
            return refuse(BAD);
        }
        int was = s.told[what];
        s.told[what] = v;
        return was;
    }

    long feed(int letter) {
        if (!in(letter, 0, 255)) {
            return refuse(BAD);
        }
        if (tape.size() == 250) {
            return refuse(FULL);
        }
        tape.add(letter);
        return tape.size();
    }

    long wipe() {
        int was = tape.size();
        tape.clear();
        return was;
    }

    static final class Fault extends RuntimeException {
        private static final long serialVersionUID = 1;
        final int place;

        Fault(int place) {
            super(null, null, false, false);
            this.place = place;
        }
    }

    long bank() {
        StringBuilder text = new StringBuilder();
        for (int b : tape) {
            text.append((char) b);
        }
        tape.clear();
        State ahead = s;
        s = s.copy();
        try {
            return new Reader(text.toString()).statements();
        } catch (Fault f) {
            s = ahead;
            refuse(BAD);
            return -2000 - f.place;
        }
    }

    private final class Reader {
        final List<String> tokens = new ArrayList<>();
        final List<Integer> places = new ArrayList<>();
        int at;

        Reader(String text) {
            Matcher m = Pattern.compile("[a-z]+|[0-9]+|;|[^ ]", Pattern.DOTALL).matcher(text);
            while (m.find()) {
                tokens.add(m.group());
                places.add(m.start());
            }
            tokens.add("");
            places.add(text.length());
        }

        Fault fault() {
            return new Fault(places.get(at));
        }

        int number(int least, int most) {
            String t = tokens.get(at);
            if (!t.matches("[0-9]{1,2}") || !in(Integer.parseInt(t), least, most)) {
                throw fault();
            }
            at++;
            return Integer.parseInt(t);
        }

        long statements() {
            for (int n = 1;; n++) {
                statement();
                if (tokens.get(at).isEmpty()) {
                    return n;
                }
                if (!tokens.get(at).equals(";")) {
                    throw fault();
                }
                at++;
            }
        }

        void statement() {
            String word = tokens.get(at);
            int what = List.of("seats", "law", "rule", "hermits", "cost").indexOf(word);
            int how = List.of("free", "tie", "shun").indexOf(word);
            if (!word.equals("party") && what < 0 && how < 0 || word.equals("party") && s.parties.size() == 8) {
                throw fault();
            }
            at++;
            if (what >= 0) {
                s.told[what] = number(TOLD[what][0], TOLD[what][1]);
            } else if (how >= 0) {
                int p = number(0, s.parties.size() - 1);
                int q = number(0, s.parties.size() - 1);
                if (p == q) {
                    at--;
                    throw fault();
                }
                s.bonds[p][q] = how;
                s.bonds[q][p] = how;
            } else {
                s.parties.add(new Party(number(0, 5), number(0, 9), number(1, 40), number(0, 99)));
            }
        }
    }

    long partyOf(int p, int what) {
        if (!party(p) || !in(what, 0, 7)) {
            return refuse(BAD);
        }
        Party it = s.parties.get(p);
        int[] bits = new int[3];
        for (int q = 0; q < 8; q++) {
            bits[s.bonds[p][q]] |= 1 << q;
        }
        return new int[] {it.kind, it.a, it.size, it.purse, s.heads(it), s.over[p] ? 1 : 0, bits[1], bits[2]}[what];
    }

    long heads(int g) {
        return group(g) ? s.headsOf(g) : refuse(BAD);
    }

    long goes(int n) {
        return in(n, 0, 999) ? s.goes(n) ? 1 : 0 : refuse(BAD);
    }

    long next(int n) {
        if (!in(n, 0, 99)) {
            return refuse(BAD);
        }
        int m = n;
        while (m < 100 && !s.goes(m)) {
            m++;
        }
        return m == 100 ? NONE : m;
    }

    long before(int n) {
        if (!in(n, 0, 99)) {
            return refuse(BAD);
        }
        int m = n;
        while (m > 0 && !s.goes(m)) {
            m--;
        }
        return m == 0 ? NONE : m;
    }

    long hire(int g) {
        return group(g) ? s.hire(g) : refuse(BAD);
    }

    List<Integer> goers() {
        List<Integer> goers = new ArrayList<>();
        for (int g = 0; g <= s.all(); g++) {
            if (s.hire(g) != NONE) {
                goers.add(g);
            }
        }
        return goers;
    }

    long many() {
        return goers().size();
    }

    long stranded() {
        int bits = 0;
        for (int p = 0; p < s.parties.size(); p++) {
            int it = p;
            if (!s.over[p] && goers().stream().noneMatch(g -> State.in(it, g))) {
                bits |= 1 << p;
            }
        }
        return bits;
    }

    long along(int p) {
        if (!party(p)) {
            return refuse(BAD);
        }
        if (s.over[p]) {
            return refuse(STUCK);
        }
        for (int h = 0; h <= s.told[3]; h++) {
            for (int q = 0; q < s.parties.size(); q++) {
                if (q != p && s.hire(1 << p | 1 << q) == h) {
                    return q;
                }
            }
        }
        return NONE;
    }

    long plan(int i) {
        if (i < -2) {
            return refuse(BAD);
        }
        int[] plan = s.plan();
        if (plan == null) {
            return NONE;
        }
        return i >= plan[0] ? refuse(STUCK) : plan[i + 2];
    }

    long worth(int p) {
        if (!party(p)) {
            return refuse(BAD);
        }
        if (s.over[p]) {
            return refuse(STUCK);
        }
        int[] with = s.plan();
        int[] without = s.plan(s.overBits() | 1 << p);
        return with == null || without == null ? -1000 : without[1] - with[1];
    }

    private int[] planBy(int what, int v) {
        int was = s.told[what];
        s.told[what] = v;
        int[] plan = s.plan();
        s.told[what] = was;
        return plan;
    }

    long laws(int law) {
        if (!in(law, -1, 3)) {
            return refuse(BAD);
        }
        if (law >= 0) {
            int[] plan = planBy(1, law);
            return plan == null ? NONE : plan[0];
        }
        int best = 0;
        for (int l = 1; l < 4; l++) {
            int[] mine = planBy(1, l);
            int[] other = planBy(1, best);
            if (mine != null && (other == null || mine[0] < other[0])) {
                best = l;
            }
        }
        return best;
    }

    long sizes() {
        for (int seats = 1; seats < 100; seats++) {
            if (planBy(0, seats) != null) {
                return seats;
            }
        }
        return NONE;
    }

    private static boolean better(int[] mine, int[] other) {
        return mine != null && (other == null || Arrays.compare(mine, 0, 2, other, 0, 2) < 0);
    }

    long rules() {
        int best = 0;
        for (int r = 1; r < 4; r++) {
            if (better(planBy(2, r), planBy(2, best))) {
                best = r;
            }
        }
        return best;
    }

    long left(int n) {
        if (!in(n, 0, 400)) {
            return refuse(BAD);
        }
        boolean[] reached = new boolean[n + 1];
        reached[0] = true;
        int most = 0;
        for (int m = 0; m <= n; m++) {
            for (int g = 1; reached[m] && g <= 99 && m + g <= n; g++) {
                reached[m + g] |= s.goes(g);
            }
            most = reached[m] ? m : most;
        }
        return n - most;
    }

    long ways(int n) {
        return in(n, 0, 60) ? ways(n, n, new HashMap<>()) : refuse(BAD);
    }

    private long ways(int n, int greatest, Map<Integer, Long> known) {
        if (n == 0) {
            return 1;
        }
        Long was = known.get(n * 100 + greatest);
        if (was != null) {
            return was;
        }
        long sum = 0;
        for (int g = 1; g <= Math.min(n, greatest); g++) {
            sum += s.goes(g) ? ways(n - g, g, known) : 0;
        }
        known.put(n * 100 + greatest, sum);
        return sum;
    }

    long bids(int p, int q, int what) {
        if (!party(p) || !party(q) || p == q || !in(what, 0, 1)) {
            return refuse(BAD);
        }
        int bid = bid(0, s.parties.get(p).purse, s.parties.get(q).purse, new HashMap<>());
        return what == 1 ? bid : bid == 0 ? 0 : 1;
    }

    private static int bid(int ahead, int mine, int others, Map<Integer, Integer> known) {
        Integer was = known.get((ahead * 100 + mine) * 100 + others);
        if (was != null) {
            return was;
        }
        int best = 0;
        for (int more = 3; more >= 1; more--) {
            if (ahead + more <= mine && bid(ahead + more, others, mine, known) == 0) {
                best = more;
            }
        }
        known.put((ahead * 100 + mine) * 100 + others, best);
        return best;
    }

    private long told(int i, int n, int most, int what) {
        if (!shelf(i) || !in(n, 0, most) || !in(what, 0, 1)) {
            return refuse(BAD);
        }
        if (shelves[i] instanceof Integer) {
            return refuse(OTHER);
        }
        if (shelves[i] == null) {
            return refuse(NOTHING);
        }
        return ((long[]) shelves[i]).length < n ? refuse(BAD) : 1;
    }

    long crossed(int i, int n, int what) {
        long trouble = told(i, n, 8, what);
        if (trouble < 0) {
            return trouble;
        }
        long[] row = Arrays.copyOf((long[]) shelves[i], n);
        Map<Long, Long> known = new HashMap<>();
        if (what == 0) {
            return crossed(row, 0, s.overBits(), known);
        }
        for (int g = 1; n > 0 && g <= s.all(); g++) {
            long h = row[0] - s.headsOf(g);
            if (in(h, 0, s.told[3]) && s.may(g, h, s.overBits()) && crossed(row, 1, s.overBits() | g, known) > 0) {
                return g;
            }
        }
        return NONE;
    }

    private long crossed(long[] row, int i, int overBits, Map<Long, Long> known) {
        if (i == row.length) {
            return 1;
        }
        long key = i * 1000L + overBits;
        if (known.containsKey(key)) {
            return known.get(key);
        }
        long sum = 0;
        for (int g = 1; g <= s.all(); g++) {
            for (int h = 0; h <= s.told[3]; h++) {
                if (s.headsOf(g) + h == row[i] && s.may(g, h, overBits)) {
                    sum += crossed(row, i + 1, overBits | g, known);
                }
            }
        }
        known.put(key, sum);
        return sum;
    }

    long numbers() {
        int n = 0;
        for (int g = 1; g < 100; g++) {
            n += s.goes(g) ? 1 : 0;
        }
        return n;
    }

    long lacks(int g) {
        return group(g) ? s.hire(g, s.overBits(), 99) : refuse(BAD);
    }

    long fullest(int what) {
        if (!in(what, 0, 1)) {
            return refuse(BAD);
        }
        int best = NONE;
        for (int g : goers()) {
            best = best == NONE || s.headsOf(g) > s.headsOf(best) ? g : best;
        }
        return what == 0 || best == NONE ? best : s.headsOf(best);
    }

    long cheapest(int p) {
        if (!party(p)) {
            return refuse(BAD);
        }
        if (s.over[p]) {
            return refuse(STUCK);
        }
        int best = NONE;
        for (int g : goers()) {
            if (State.in(p, g) && (best == NONE || s.hire(g) < s.hire(best))) {
                best = g;
            }
        }
        return best;
    }

    private int knotOf(int p, int seen) {
        int knot = seen | 1 << p;
        for (int q = 0; q < 8; q++) {
            if (s.bonds[p][q] == 1 && !State.in(q, knot)) {
                knot = knotOf(q, knot);
            }
        }
        return knot;
    }

    long knot(int p) {
        return party(p) ? knotOf(p, 0) : refuse(BAD);
    }

    long torn() {
        for (int p = 0; p < 8; p++) {
            for (int q = 0; q < 8; q++) {
                if (s.bonds[p][q] == 2 && State.in(q, knotOf(p, 0))) {
                    return 1;
                }
            }
        }
        return 0;
    }

    long fit(int p) {
        if (!party(p)) {
            return refuse(BAD);
        }
        if (s.over[p]) {
            return refuse(STUCK);
        }
        Party was = s.parties.get(p);
        int least = NONE;
        for (int size = 40; size >= 1; size--) {
            s.parties.set(p, new Party(was.kind, was.a, size, was.purse));
            least = s.may(1 << p, 0, s.overBits()) ? size : least;
        }
        s.parties.set(p, was);
        return least;
    }

    long fare(int g) {
        if (!group(g)) {
            return refuse(BAD);
        }
        return s.hire(g) == NONE ? NONE : s.hire(g) * s.told[4];
    }

    long waiting() {
        return s.headsOf(s.all() & ~s.overBits());
    }

    long time() {
        int[] plan = s.plan();
        return plan == null ? NONE : plan[0] * 20;
    }

    long loosen() {
        int best = NONE;
        int[] bestPlan = null;
        for (int p = 0; p < 8; p++) {
            for (int q = p + 1; q < 8; q++) {
                if (s.bonds[p][q] == 1) {
                    bind(p, q, 0);
                    int[] plan = s.plan();
                    bind(p, q, 1);
                    if (best == NONE || better(plan, bestPlan)) {
                        best = p * 10 + q;
                        bestPlan = plan;
                    }
                }
            }
        }
        return best;
    }

    long alone() {
        int bits = 0;
        for (int p = 0; p < s.parties.size(); p++) {
            bits |= s.may(1 << p, 0, s.overBits()) ? 1 << p : 0;
        }
        return bits;
    }

    long together(int p, int q) {
        if (!party(p) || !party(q) || p == q) {
            return refuse(BAD);
        }
        return goers().stream().filter(g -> State.in(p, g) && State.in(q, g)).count();
    }

    long spare(int g) {
        if (!group(g)) {
            return refuse(BAD);
        }
        return s.hire(g) == NONE ? NONE : s.told[0] - s.headsOf(g) - s.hire(g);
    }

    long purses(int g) {
        if (!group(g)) {
            return refuse(BAD);
        }
        int sum = 0;
        for (int p = 0; p < s.parties.size(); p++) {
            sum += State.in(p, g) ? s.parties.get(p).purse : 0;
        }
        return sum;
    }

    long ofKind(int kind) {
        return in(kind, 0, 5) ? s.parties.stream().filter(p -> p.kind == kind).count() : refuse(BAD);
    }

    /** Wrong, over, hermits. */
    private int[] day(long[] row, int n) {
        int over = s.overBits();
        int hermits = 0;
        for (int i = 0; i < n; i++) {
            int hire = in(row[i], 0, s.all()) ? s.hire((int) row[i], over, s.told[3]) : NONE;
            if (hire == NONE) {
                return new int[] {i, over, hermits};
            }
            over |= (int) row[i];
            hermits += hire;
        }
        return new int[] {NONE, over, hermits};
    }

    long judge(int i, int n) {
        long trouble = told(i, n, 40, 0);
        return trouble < 0 ? trouble : day((long[]) shelves[i], n)[0];
    }

    long behind(int i, int n, int what) {
        long trouble = told(i, n, 40, what);
        if (trouble < 0) {
            return trouble;
        }
        int[] day = day((long[]) shelves[i], n);
        return day[0] != NONE ? refuse(STUCK) : day[1 + what];
    }

    long cross(int g) {
        if (!group(g)) {
            return refuse(BAD);
        }
        int hire = s.hire(g);
        if (hire == NONE) {
            return refuse(STUCK);
        }
        for (int p = 0; p < 8; p++) {
            s.over[p] |= State.in(p, g);
        }
        s.crossings++;
        s.paid += hire * s.told[4];
        s.minutes += 20;
        return hire;
    }

    long comesBack(int p) {
        if (!party(p)) {
            return refuse(BAD);
        }
        if (!s.over[p]) {
            return refuse(STUCK);
        }
        s.over[p] = false;
        s.minutes += 20;
        return s.minutes;
    }

    long days(int n) {
        if (!in(n, 1, 60)) {
            return refuse(BAD);
        }
        if (s.parties.isEmpty()) {
            return refuse(STUCK);
        }
        int crossed = 0;
        for (int day = 0; day < n; day++) {
            int group = 0;
            for (int p = 0; p < s.parties.size(); p++) {
                group |= !s.over[p] && s.draw(2) == 1 ? 1 << p : 0;
            }
            if (s.hire(group) != NONE) {
                cross(group);
                crossed++;
            } else {
                int p = s.draw(s.parties.size());
                if (s.over[p]) {
                    comesBack(p);
                }
            }
            s.minutes += 60;
        }
        return crossed;
    }

    long seed(int v) {
        int was = s.seed;
        s.seed = v;
        return was;
    }

    long image() {
        image = s.copy();
        return 1;
    }

    long back() {
        if (image == null) {
            return refuse(STUCK);
        }
        s = image.copy();
        for (int i = 0; i < 8; i++) {
            if (shelves[i] instanceof Integer p && !party(p)) {
                shelves[i] = null;
            }
        }
        return 1;
    }

    long status(int what) {
        if (!in(what, 0, 17)) {
            return NONE;
        }
        long used = Arrays.stream(shelves).filter(x -> x != null).count();
        return new long[] {s.parties.size(), s.told[0], s.told[1], s.told[2], s.told[3], s.told[4], s.minutes, s.paid,
            s.crossings, s.overBits(), tape.size(), s.seed, refusals[0], refusals[1], refusals[2], refusals[3],
            refusals[4], used}[what];
    }
}
