import java.util.Arrays;

/** A bank, its boat and its parties; what each method answers stands in the document. */
public final class RowsOnlyPrimes {
    public static final int NONE = -1;

    private static final int FINE = 0;
    private static final int BAD = -1002;
    private static final int OTHER = -1003;
    private static final int NOTHING = -1004;
    private static final int STUCK = -1005;
    private static final int FULL = -1006;
    private static final int NO_WORTH = -1000;
    private static final int FAULT = -2000;

    private static final int MOST_PARTIES = 8;
    private static final int GROUPS = 1 << MOST_PARTIES;
    private static final int MOST_SHELVES = 8;
    private static final int MOST_ELEMENTS = 40;
    private static final int MOST_BYTES = 250;
    private static final int MOST_A = 9;
    private static final int MOST_SIZE = 40;
    private static final int MOST_PURSE = 99;
    private static final int MOST_SEATS = 99;
    private static final int MOST_STAYING = 400;
    private static final int MOST_SUMMED = 60;
    private static final int MOST_CROSSINGS_TOLD = 8;
    private static final int MOST_DAYS = 60;
    private static final int GREATEST_NUMBER = 999;

    private static final int PARTY = 0;
    private static final int FAMILY = 1;
    private static final int FLOCK = 2;
    private static final int MOTHERS = 3;
    private static final int PACK = 4;
    private static final int REGIMENT = 5;
    private static final int KINDS = 6;
    private static final int[] KIND_ABOVE = {NONE, PARTY, PARTY, FAMILY, FLOCK, PARTY};

    private static final int NEITHER = 0;
    private static final int TIED = 1;
    private static final int SHUNNED = 2;

    // what can be told of the boat, by the numbers of tell
    private static final int SEATS = 0;
    private static final int LAW = 1;
    private static final int RULE = 2;
    private static final int HERMITS = 3;
    private static final int COST = 4;
    private static final int TOLD = 5;
    private static final int[] TOLD_FIRST = {13, 0, 3, 3, 2};
    private static final int[] TOLD_LEAST = {1, 0, 0, 0, 0};
    private static final int[] TOLD_MOST = {99, 3, 3, 9, 9};
    private static final int LAWS = 4;
    private static final int RULES = 4;

    private static final int CROSSING_MINUTES = 20;
    private static final int DAY_MINUTES = 60;

    private final Bank now = new Bank();
    private final Bank kept = new Bank();
    private final Bank draft = new Bank();
    private final Tape tape = new Tape();
    private final Shelf[] shelves = new Shelf[MOST_SHELVES];
    private final int[] refusals = new int[BAD - FULL + 1];
    private final Plans plans = new Plans();
    private final Numbers sums = new Numbers();
    private final Auction auction = new Auction();
    private final Account account = new Account();
    private final Day day = new Day();
    private boolean imaged;

    public RowsOnlyPrimes() {
        for (int s = 0; s < MOST_SHELVES; s++) {
            shelves[s] = new Shelf();
        }
    }

    // ---- shelves

    public int row(int s, int sort, int n) {
        if (!isShelf(s) || !within(sort, 0, Shelf.SORTS - 1) || !within(n, 0, MOST_ELEMENTS)) {
            return refuse(BAD);
        }
        shelves[s].takeRow(sort, n);
        return 1;
    }

    public int set(int s, int i, long v) {
        int trouble = rowTrouble(s);
        if (trouble == FINE && !shelves[s].hasPlaces(i, 1)) {
            trouble = BAD;
        }
        if (trouble != FINE) {
            return refuse(trouble);
        }
        shelves[s].put(i, v);
        return 1;
    }

    public int copy(int p, int q, int i, int j, int n) {
        if (!isShelf(p) || !isShelf(q)) {
            return refuse(BAD);
        }
        Shelf from = shelves[p];
        Shelf to = shelves[q];
        if (from.hasParty() || to.hasParty()) {
            return refuse(OTHER);
        }
        if (from.hasRow() && to.hasRow() && from.content != to.content) {
            return refuse(OTHER);
        }
        if (!from.hasRow() || !to.hasRow()) {
            return refuse(NOTHING);
        }
        if (!from.hasPlaces(i, n) || !to.hasPlaces(j, n)) {
            return refuse(BAD);
        }
        System.arraycopy(from.elements, i, to.elements, j, n);
        return n;
    }

    public long element(int s, int i) {
        return isShelf(s) ? shelves[s].at(i) : 0;
    }

    public int holds(int s) {
        return isShelf(s) ? shelves[s].content : NONE;
    }

    public int show(int s, int party) {
        if (!isShelf(s) || (party != NONE && !now.hasParty(party))) {
            return refuse(BAD);
        }
        shelves[s].takeParty(party);
        return 1;
    }

    public int says(int s, int kind) {
        if (!isShelf(s) || !isKind(kind)) {
            return refuse(BAD);
        }
        Shelf shelf = shelves[s];
        if (shelf.hasRow()) {
            return refuse(OTHER);
        }
        if (!shelf.hasParty()) {
            return refuse(NOTHING);
        }
        int party = shelf.partyNumber();
        if (!now.hasParty(party) || !isOfKind(now.kinds[party], kind)) {
            return refuse(OTHER);
        }
        return kind == PARTY ? now.wallets[party] : now.headsOf(party);
    }

    // ---- the bank

    public int party(int kind, int a, int size, int purse) {
        if (!isKind(kind) || !within(a, 0, MOST_A) || !within(size, 1, MOST_SIZE) || !within(purse, 0, MOST_PURSE)) {
            return refuse(BAD);
        }
        if (!now.hasRoom()) {
            return refuse(FULL);
        }
        return now.add(kind, a, size, purse);
    }

    public int give(int party, int what, int v) {
        if (!now.hasParty(party)) {
            return refuse(BAD);
        }
        if (what == 0 && within(v, 1, MOST_SIZE)) {
            int was = now.counts[party];
            now.counts[party] = v;
            return was;
        }
        if (what == 1 && within(v, 0, MOST_PURSE)) {
            int was = now.wallets[party];
            now.wallets[party] = v;
            return was;
        }
        return refuse(BAD);
    }

    public int bind(int party, int other, int how) {
        if (!now.hasTwo(party, other) || !within(how, NEITHER, SHUNNED)) {
            return refuse(BAD);
        }
        int was = now.relation(party, other);
        now.relate(party, other, how);
        return was;
    }

    public int tell(int what, int v) {
        if (!within(what, 0, TOLD - 1) || !within(v, TOLD_LEAST[what], TOLD_MOST[what])) {
            return refuse(BAD);
        }
        int was = now.told[what];
        now.told[what] = v;
        return was;
    }

    public int feed(int letter) {
        if (!within(letter, 0, 255)) {
            return refuse(BAD);
        }
        return tape.append(letter) ? tape.length : refuse(FULL);
    }

    public int wipe() {
        int ahead = tape.length;
        tape.length = 0;
        return ahead;
    }

    public int bank() {
        draft.become(now);
        int statements = tape.readInto(draft);
        int answer = statements == NONE ? FAULT - tape.place : statements;
        tape.length = 0;
        if (statements == NONE) {
            refuse(BAD);
        } else {
            now.become(draft);
        }
        return answer;
    }

    public int partyOf(int party, int what) {
        if (!now.hasParty(party)) {
            return refuse(BAD);
        }
        switch (what) {
            case 0: return now.kinds[party];
            case 1: return now.extras[party];
            case 2: return now.counts[party];
            case 3: return now.wallets[party];
            case 4: return now.headsOf(party);
            case 5: return now.isOver(party) ? 1 : 0;
            case 6: return now.ties[party];
            case 7: return now.shuns[party];
            default: return refuse(BAD);
        }
    }

    // ---- who goes

    public int heads(int group) {
        return now.hasGroup(group) ? now.headsTogether(group) : refuse(BAD);
    }

    public int goes(int n) {
        if (!within(n, 0, GREATEST_NUMBER)) {
            return refuse(BAD);
        }
        return now.lets(n) ? 1 : 0;
    }

    public int next(int n) {
        if (!within(n, 0, MOST_SEATS)) {
            return refuse(BAD);
        }
        for (int number = n; number <= MOST_SEATS; number++) {
            if (now.lets(number)) {
                return number;
            }
        }
        return NONE;
    }

    public int hire(int group) {
        return now.hasGroup(group) ? now.hireNow(group) : refuse(BAD);
    }

    public int many() {
        int going = 0;
        for (int group = 1; group <= now.everybody(); group++) {
            if (now.hireNow(group) != NONE) {
                going++;
            }
        }
        return going;
    }

    public int stranded() {
        int going = 0;
        for (int group = 1; group <= now.everybody(); group++) {
            if (now.hireNow(group) != NONE) {
                going |= group;
            }
        }
        return now.here() & ~going;
    }

    public int along(int party) {
        int trouble = waiterTrouble(party);
        if (trouble != FINE) {
            return refuse(trouble);
        }
        int best = NONE;
        int leastHire = NONE;
        for (int other = 0; other < now.size; other++) {
            int hire = other == party ? NONE : now.hireNow(1 << party | 1 << other);
            if (hire != NONE && (best == NONE || hire < leastHire)) {
                best = other;
                leastHire = hire;
            }
        }
        return best;
    }

    // ---- plans

    public int plan(int i) {
        if (i < -2) {
            return refuse(BAD);
        }
        plans.reckon(now);
        if (!plans.found()) {
            return NONE;
        }
        if (i == -2) {
            return plans.crossings();
        }
        if (i == NONE) {
            return plans.hermits();
        }
        return i < plans.crossings() ? plans.groupAt(i) : refuse(STUCK);
    }

    public int worth(int party) {
        int trouble = waiterTrouble(party);
        if (trouble != FINE) {
            return refuse(trouble);
        }
        plans.reckon(now);
        int withIt = plans.hermits();
        draft.become(now);
        draft.over |= 1 << party;
        plans.reckon(draft);
        int withoutIt = plans.hermits();
        return withIt == NONE || withoutIt == NONE ? NO_WORTH : withoutIt - withIt;
    }

    public int laws(int law) {
        if (!within(law, NONE, LAWS - 1)) {
            return refuse(BAD);
        }
        if (law != NONE) {
            planIf(LAW, law);
            return plans.crossings();
        }
        int best = 0;
        int fewest = Plans.NO_PLAN;
        for (int each = 0; each < LAWS; each++) {
            planIf(LAW, each);
            if (plans.found() && plans.crossings() < fewest) {
                best = each;
                fewest = plans.crossings();
            }
        }
        return best;
    }

    public int sizes() {
        planIf(SEATS, MOST_SEATS);
        if (!plans.found()) {
            return NONE;
        }
        // who can go in fewer seats can go in more: so halving finds the least
        int low = 1;
        int high = MOST_SEATS;
        for (int round = 0; round < MOST_SEATS && low < high; round++) {
            int middle = (low + high) / 2;
            planIf(SEATS, middle);
            if (plans.found()) {
                high = middle;
            } else {
                low = middle + 1;
            }
        }
        return low;
    }

    public int rules() {
        int best = 0;
        int least = Plans.NO_PLAN;
        for (int rule = 0; rule < RULES; rule++) {
            planIf(RULE, rule);
            if (plans.price() < least) {
                best = rule;
                least = plans.price();
            }
        }
        return best;
    }

    public int time() {
        plans.reckon(now);
        return plans.found() ? plans.crossings() * CROSSING_MINUTES : NONE;
    }

    public int loosen() {
        int best = NONE;
        int least = Plans.NO_PLAN;
        for (int party = 0; party < now.size; party++) {
            for (int other = party + 1; other < now.size; other++) {
                if (now.relation(party, other) == TIED) {
                    int price = priceUntied(party, other);
                    if (best == NONE || price < least) {
                        best = party * 10 + other;
                        least = price;
                    }
                }
            }
        }
        return best;
    }

    // ---- numbers and bids

    public int left(int n) {
        return within(n, 0, MOST_STAYING) ? sums.leastStaying(now, n) : refuse(BAD);
    }

    public int ways(int n) {
        return within(n, 0, MOST_SUMMED) ? sums.waysToSum(now, n) : refuse(BAD);
    }

    public int bids(int party, int other, int what) {
        if (!now.hasTwo(party, other) || !within(what, 0, 1)) {
            return refuse(BAD);
        }
        int bid = auction.firstBid(now.wallets[party], now.wallets[other]);
        return what == 1 ? bid : Math.min(bid, 1);
    }

    public int numbers() {
        int going = 0;
        for (int number = 1; number <= MOST_SEATS; number++) {
            if (now.lets(number)) {
                going++;
            }
        }
        return going;
    }

    public int before(int n) {
        if (!within(n, 0, MOST_SEATS)) {
            return refuse(BAD);
        }
        for (int number = n; number >= 1; number--) {
            if (now.lets(number)) {
                return number;
            }
        }
        return NONE;
    }

    // ---- groups and parties

    public int lacks(int group) {
        if (!now.hasGroup(group)) {
            return refuse(BAD);
        }
        return now.agrees(group, now.over) ? now.leastHermits(now.headsTogether(group), MOST_SEATS) : NONE;
    }

    public int fullest(int what) {
        if (!within(what, 0, 1)) {
            return refuse(BAD);
        }
        int best = NONE;
        int greatest = NONE;
        for (int group = 1; group <= now.everybody(); group++) {
            if (now.hireNow(group) != NONE && now.headsTogether(group) > greatest) {
                best = group;
                greatest = now.headsTogether(group);
            }
        }
        return what == 0 ? best : greatest;
    }

    public int cheapest(int party) {
        int trouble = waiterTrouble(party);
        if (trouble != FINE) {
            return refuse(trouble);
        }
        int best = NONE;
        int leastHire = NONE;
        for (int group = 1; group <= now.everybody(); group++) {
            int hire = has(group, party) ? now.hireNow(group) : NONE;
            if (hire != NONE && (best == NONE || hire < leastHire)) {
                best = group;
                leastHire = hire;
            }
        }
        return best;
    }

    public int knot(int party) {
        return now.hasParty(party) ? now.knotOf(party) : refuse(BAD);
    }

    public int torn() {
        for (int party = 0; party < now.size; party++) {
            if ((now.shuns[party] & now.knotOf(party)) != 0) {
                return 1;
            }
        }
        return 0;
    }

    public int fit(int party) {
        int trouble = waiterTrouble(party);
        if (trouble != FINE) {
            return refuse(trouble);
        }
        if (!now.agrees(1 << party, now.over)) {
            return NONE;
        }
        for (int size = 1; size <= MOST_SIZE; size++) {
            if (now.lets(now.headsIf(party, size))) {
                return size;
            }
        }
        return NONE;
    }

    public int fare(int group) {
        if (!now.hasGroup(group)) {
            return refuse(BAD);
        }
        int hire = now.hireNow(group);
        return hire == NONE ? NONE : hire * now.told[COST];
    }

    public int waiting() {
        return now.headsTogether(now.here());
    }

    public int alone() {
        int going = 0;
        for (int party = 0; party < now.size; party++) {
            if (now.hireNow(1 << party) == 0) {
                going |= 1 << party;
            }
        }
        return going;
    }

    public int together(int party, int other) {
        if (!now.hasTwo(party, other)) {
            return refuse(BAD);
        }
        int going = 0;
        for (int group = 1; group <= now.everybody(); group++) {
            if (has(group, party) && has(group, other) && now.hireNow(group) != NONE) {
                going++;
            }
        }
        return going;
    }

    public int spare(int group) {
        if (!now.hasGroup(group)) {
            return refuse(BAD);
        }
        int hire = now.hireNow(group);
        return hire == NONE ? NONE : now.told[SEATS] - now.headsTogether(group) - hire;
    }

    public int purses(int group) {
        if (!now.hasGroup(group)) {
            return refuse(BAD);
        }
        int sum = 0;
        for (int party = 0; party < now.size; party++) {
            if (has(group, party)) {
                sum += now.wallets[party];
            }
        }
        return sum;
    }

    public int ofKind(int kind) {
        if (!isKind(kind)) {
            return refuse(BAD);
        }
        int found = 0;
        for (int party = 0; party < now.size; party++) {
            if (now.kinds[party] == kind) {
                found++;
            }
        }
        return found;
    }

    // ---- told rows

    public int crossed(int s, int n, int what) {
        int trouble = toldTrouble(s, n, MOST_CROSSINGS_TOLD, what);
        if (trouble != FINE) {
            return refuse(trouble);
        }
        int ways = account.waysToCross(now, shelves[s], n);
        return what == 0 ? ways : account.firstGroup;
    }

    public int judge(int s, int n) {
        int trouble = toldTrouble(s, n, MOST_ELEMENTS, 0);
        if (trouble != FINE) {
            return refuse(trouble);
        }
        day.follow(now, shelves[s], n);
        return day.wrong;
    }

    public int behind(int s, int n, int what) {
        int trouble = toldTrouble(s, n, MOST_ELEMENTS, what);
        if (trouble != FINE) {
            return refuse(trouble);
        }
        day.follow(now, shelves[s], n);
        if (day.wrong != NONE) {
            return refuse(STUCK);
        }
        return what == 0 ? day.over : day.hired;
    }

    // ---- in truth

    public int cross(int group) {
        if (!now.hasGroup(group)) {
            return refuse(BAD);
        }
        int hire = now.hireNow(group);
        if (hire == NONE) {
            return refuse(STUCK);
        }
        now.rowOver(group, hire);
        return hire;
    }

    public int comesBack(int party) {
        if (!now.hasParty(party)) {
            return refuse(BAD);
        }
        if (!now.isOver(party)) {
            return refuse(STUCK);
        }
        now.rowBack(party);
        return now.minutes;
    }

    public int days(int n) {
        if (!within(n, 1, MOST_DAYS)) {
            return refuse(BAD);
        }
        if (now.size == 0) {
            return refuse(STUCK);
        }
        int crossed = 0;
        for (int each = 0; each < n; each++) {
            if (now.passDay()) {
                crossed++;
            }
        }
        return crossed;
    }

    public int seed(int v) {
        int ahead = now.chance;
        now.chance = v;
        return ahead;
    }

    public int image() {
        kept.become(now);
        imaged = true;
        return 1;
    }

    public int back() {
        if (!imaged) {
            return refuse(STUCK);
        }
        now.become(kept);
        for (int s = 0; s < MOST_SHELVES; s++) {
            if (shelves[s].hasParty() && !now.hasParty(shelves[s].partyNumber())) {
                shelves[s].takeParty(NONE);
            }
        }
        return 1;
    }

    public int status(int what) {
        if (within(what, 1, TOLD)) {
            return now.told[what - 1];
        }
        if (within(what, 12, 16)) {
            return refusals[what - 12];
        }
        switch (what) {
            case 0: return now.size;
            case 6: return now.minutes;
            case 7: return now.paid;
            case 8: return now.crossings;
            case 9: return now.over;
            case 10: return tape.length;
            case 11: return now.chance;
            case 17: return shelvesInUse();
            default: return NONE;
        }
    }

    // ---- what the calls share

    private int refuse(int number) {
        int place = BAD - number;
        if (within(place, 0, refusals.length - 1)) {
            refusals[place]++;
        }
        return number;
    }

    private int rowTrouble(int s) {
        if (!isShelf(s)) {
            return BAD;
        }
        if (shelves[s].hasParty()) {
            return OTHER;
        }
        return shelves[s].hasRow() ? FINE : NOTHING;
    }

    private int toldTrouble(int s, int n, int most, int what) {
        if (!within(n, 0, most) || !within(what, 0, 1)) {
            return BAD;
        }
        int trouble = rowTrouble(s);
        return trouble == FINE && !shelves[s].hasPlaces(0, n) ? BAD : trouble;
    }

    private int waiterTrouble(int party) {
        if (!now.hasParty(party)) {
            return BAD;
        }
        return now.isOver(party) ? STUCK : FINE;
    }

    private void planIf(int what, int v) {
        draft.become(now);
        if (within(what, 0, TOLD - 1)) {
            draft.told[what] = v;
        }
        plans.reckon(draft);
    }

    private int priceUntied(int party, int other) {
        draft.become(now);
        draft.relate(party, other, NEITHER);
        plans.reckon(draft);
        return plans.price();
    }

    private int shelvesInUse() {
        int used = 0;
        for (int s = 0; s < MOST_SHELVES; s++) {
            if (shelves[s].content != NONE) {
                used++;
            }
        }
        return used;
    }

    private static boolean within(int v, int least, int most) {
        return v >= least && v <= most;
    }

    private static boolean isShelf(int s) {
        return within(s, 0, MOST_SHELVES - 1);
    }

    private static boolean isKind(int kind) {
        return within(kind, 0, KINDS - 1);
    }

    private static boolean has(int group, int party) {
        return (group >> party & 1) == 1;
    }

    private static boolean isOfKind(int own, int wanted) {
        int kind = own;
        for (int step = 0; step < KINDS && isKind(kind); step++) {
            if (kind == wanted) {
                return true;
            }
            kind = KIND_ABOVE[kind];
        }
        return false;
    }

    /** All that an image keeps; a second one serves to try what would be if. */
    private static final class Bank {
        private static final int FIRST_SEED = 1;
        private static final int SEED_FACTOR = 1103515245;
        private static final int SEED_STEP = 12345;
        private static final int BABIES = 1;
        private static final int BEASTS = 2;

        final int[] kinds = new int[MOST_PARTIES];
        final int[] extras = new int[MOST_PARTIES];
        final int[] counts = new int[MOST_PARTIES];
        final int[] wallets = new int[MOST_PARTIES];
        final int[] ties = new int[MOST_PARTIES];
        final int[] shuns = new int[MOST_PARTIES];
        final int[] told = new int[TOLD];
        int size;
        int over;
        int minutes;
        int paid;
        int crossings;
        int chance = FIRST_SEED;

        Bank() {
            System.arraycopy(TOLD_FIRST, 0, told, 0, TOLD);
        }

        void become(Bank other) {
            System.arraycopy(other.kinds, 0, kinds, 0, MOST_PARTIES);
            System.arraycopy(other.extras, 0, extras, 0, MOST_PARTIES);
            System.arraycopy(other.counts, 0, counts, 0, MOST_PARTIES);
            System.arraycopy(other.wallets, 0, wallets, 0, MOST_PARTIES);
            System.arraycopy(other.ties, 0, ties, 0, MOST_PARTIES);
            System.arraycopy(other.shuns, 0, shuns, 0, MOST_PARTIES);
            System.arraycopy(other.told, 0, told, 0, TOLD);
            size = other.size;
            over = other.over;
            minutes = other.minutes;
            paid = other.paid;
            crossings = other.crossings;
            chance = other.chance;
        }

        boolean hasRoom() {
            return size < MOST_PARTIES;
        }

        int add(int kind, int a, int count, int wallet) {
            if (!hasRoom()) {
                return NONE;
            }
            int party = size;
            kinds[party] = kind;
            extras[party] = a;
            counts[party] = count;
            wallets[party] = wallet;
            size++;
            return party;
        }

        boolean hasParty(int party) {
            return within(party, 0, size - 1);
        }

        boolean hasTwo(int party, int other) {
            return hasParty(party) && hasParty(other) && party != other;
        }

        boolean hasGroup(int group) {
            return within(group, 0, everybody());
        }

        int everybody() {
            return (1 << size) - 1;
        }

        int here() {
            return everybody() & ~over;
        }

        boolean isOver(int party) {
            return has(over, party);
        }

        int relation(int party, int other) {
            if (!hasTwo(party, other)) {
                return NEITHER;
            }
            if (has(ties[party], other)) {
                return TIED;
            }
            return has(shuns[party], other) ? SHUNNED : NEITHER;
        }

        void relate(int party, int other, int how) {
            if (hasTwo(party, other)) {
                mark(ties, party, other, how == TIED);
                mark(shuns, party, other, how == SHUNNED);
            }
        }

        private static void mark(int[] rows, int party, int other, boolean on) {
            rows[party] = on ? rows[party] | 1 << other : rows[party] & ~(1 << other);
            rows[other] = on ? rows[other] | 1 << party : rows[other] & ~(1 << party);
        }

        int knotOf(int party) {
            int knot = 1 << party;
            // each round reaches those a tie farther off
            for (int round = 1; round < size; round++) {
                for (int other = 0; other < size; other++) {
                    if (has(knot, other)) {
                        knot |= ties[other];
                    }
                }
            }
            return knot;
        }

        int headsOf(int party) {
            return headsIf(party, counts[party]);
        }

        int headsIf(int party, int count) {
            int a = extras[party];
            int family = (told[RULE] & BABIES) != 0 ? count + a : count;
            int flock = (told[RULE] & BEASTS) != 0 ? count : a;
            switch (kinds[party]) {
                case FAMILY: return family;
                case MOTHERS: return (family + 1) / 2;
                case FLOCK: return flock;
                case PACK: return flock + 1;
                case REGIMENT: return count + a;
                default: return count;
            }
        }

        int headsTogether(int group) {
            int sum = 0;
            for (int party = 0; party < size; party++) {
                if (has(group, party)) {
                    sum += headsOf(party);
                }
            }
            return sum;
        }

        boolean lets(int n) {
            if (!within(n, 1, told[SEATS])) {
                return false;
            }
            switch (told[LAW]) {
                case 1: return n % 2 == 0;
                case 2: return n % 2 == 1;
                case 3: return isSquare(n);
                default: return isPrime(n);
            }
        }

        private static boolean isSquare(int n) {
            int root = 1;
            while (root * root < n && root < n) {
                root++;
            }
            return root * root == n;
        }

        private static boolean isPrime(int n) {
            for (int divisor = 2; divisor * divisor <= n; divisor++) {
                if (n % divisor == 0) {
                    return false;
                }
            }
            return n >= 2;
        }

        /** Whether nobody in the group minds, by those who are over then; seats and law don't count. */
        boolean agrees(int group, int overThen) {
            if (group == 0 || (group & overThen) != 0) {
                return false;
            }
            int missed = ~(group | overThen);
            for (int party = 0; party < size; party++) {
                if (has(group, party) && ((shuns[party] & group) != 0 || (ties[party] & missed) != 0)) {
                    return false;
                }
            }
            return true;
        }

        int leastHermits(int heads, int most) {
            for (int hermits = 0; hermits <= most; hermits++) {
                if (lets(heads + hermits)) {
                    return hermits;
                }
            }
            return NONE;
        }

        int hireBy(int group, int overThen) {
            return agrees(group, overThen) ? leastHermits(headsTogether(group), told[HERMITS]) : NONE;
        }

        int hireNow(int group) {
            return hireBy(group, over);
        }

        void rowOver(int group, int hire) {
            over |= group;
            crossings++;
            paid += hire * told[COST];
            minutes += CROSSING_MINUTES;
        }

        void rowBack(int party) {
            over &= ~(1 << party);
            minutes += CROSSING_MINUTES;
        }

        private int draw(int n) {
            chance = chance * SEED_FACTOR + SEED_STEP;
            return n > 0 ? (chance >>> 16) % n : 0;
        }

        boolean passDay() {
            int group = 0;
            for (int party = 0; party < size; party++) {
                if (!isOver(party) && draw(2) == 1) {
                    group |= 1 << party;
                }
            }
            int hire = hireNow(group);
            if (hire != NONE) {
                rowOver(group, hire);
            } else {
                int party = draw(size);
                if (isOver(party)) {
                    rowBack(party);
                }
            }
            minutes += DAY_MINUTES;
            return hire != NONE;
        }
    }

    /** The best plan for each set of parties. */
    private static final class Plans {
        static final int NO_PLAN = 1000000;
        // above all hermits of a plan: so one number orders by crossings, then by hermits
        private static final int CROSSING = 1000;

        private final int[] steps = new int[GROUPS];
        private final int[] prices = new int[GROUPS];
        private int all;

        void reckon(Bank bank) {
            all = bank.here();
            prices[0] = 0;
            for (int set = 1; set <= all; set++) {
                int hire = bank.hireBy(set, bank.over);
                steps[set] = hire == NONE ? NO_PLAN : CROSSING + hire;
                prices[set] = (set & ~all) == 0 ? leastPrice(set) : NO_PLAN;
            }
        }

        // Tied ones who wait go together whenever they go, so the order of groups changes nothing:
        // the group with the lowest party may always be taken first.
        private int leastPrice(int set) {
            int lowest = set & -set;
            int rounds = 1 << (Integer.bitCount(set) - 1);
            int least = NO_PLAN;
            int group = set;
            for (int round = 0; round < rounds; round++) {
                least = Math.min(least, steps[group] + prices[set ^ group]);
                group = (group - lowest - 1) & set;
            }
            return least;
        }

        int price() {
            return prices[all];
        }

        boolean found() {
            return prices[all] < NO_PLAN;
        }

        int crossings() {
            return found() ? prices[all] / CROSSING : NONE;
        }

        int hermits() {
            return found() ? prices[all] % CROSSING : NONE;
        }

        int groupAt(int i) {
            int set = all;
            int group = NONE;
            for (int place = 0; place <= i && set != 0; place++) {
                group = firstGroup(set);
                set &= ~group;
            }
            return group;
        }

        private int firstGroup(int set) {
            for (int group = 1; group < set; group++) {
                if ((group & ~set) == 0 && steps[group] + prices[set ^ group] == prices[set]) {
                    return group;
                }
            }
            return set;
        }
    }

    /** Sums of numbers that go. */
    private static final class Numbers {
        private final int[] going = new int[MOST_SEATS];
        private final int[] answers = new int[MOST_STAYING + 1];
        private int found;

        private void collect(Bank bank) {
            found = 0;
            for (int number = 1; number <= MOST_SEATS; number++) {
                if (bank.lets(number)) {
                    going[found] = number;
                    found++;
                }
            }
        }

        int leastStaying(Bank bank, int n) {
            collect(bank);
            for (int people = 0; people <= n; people++) {
                int least = people;
                for (int i = 0; i < found && going[i] <= people; i++) {
                    least = Math.min(least, answers[people - going[i]]);
                }
                answers[people] = least;
            }
            return answers[n];
        }

        int waysToSum(Bank bank, int n) {
            collect(bank);
            Arrays.fill(answers, 0);
            answers[0] = 1;
            for (int i = 0; i < found; i++) {
                for (int sum = going[i]; sum <= n; sum++) {
                    answers[sum] += answers[sum - going[i]];
                }
            }
            return answers[n];
        }
    }

    /** Two who bid against each other. */
    private static final class Auction {
        private static final int MOST_MORE = 3;

        private final boolean[] wins = new boolean[2 * (MOST_PURSE + 1)];
        private final int[] purses = new int[2];

        /** The least bid by which the one who begins wins, or 0. */
        int firstBid(int own, int others) {
            purses[0] = own;
            purses[1] = others;
            for (int bid = MOST_PURSE; bid >= 0; bid--) {
                wins[2 * bid] = winningStep(bid, 0) > 0;
                wins[2 * bid + 1] = winningStep(bid, 1) > 0;
            }
            return winningStep(0, 0);
        }

        private int winningStep(int bid, int turn) {
            int most = Math.min(purses[turn], MOST_PURSE) - bid;
            for (int more = 1; more <= MOST_MORE && more <= most; more++) {
                if (!wins[2 * (bid + more) + 1 - turn]) {
                    return more;
                }
            }
            return 0;
        }
    }

    /** Who may have crossed by numbers aboard. */
    private static final class Account {
        private final boolean[] fits = new boolean[GROUPS];
        private final int[] ways = new int[GROUPS];
        int firstGroup;

        int waysToCross(Bank bank, Shelf row, int n) {
            int all = bank.here();
            firstGroup = NONE;
            Arrays.fill(ways, 1);
            for (int crossing = n - 1; crossing >= 0; crossing--) {
                markFits(bank, all, row.at(crossing));
                if (crossing == 0) {
                    firstGroup = firstFit(all);
                }
                // from the greatest set on, as a set needs the older ways of its lesser ones
                for (int set = all; set >= 0; set--) {
                    ways[set] = (set & ~all) == 0 ? waysFrom(set) : 0;
                }
            }
            return ways[all];
        }

        // Who is over by then changes no group's leave: tied ones who wait go together whenever they go.
        private void markFits(Bank bank, int all, long number) {
            boolean goes = number >= 1 && number <= MOST_SEATS && bank.lets((int) number);
            for (int group = 1; group <= all; group++) {
                long hermits = number - bank.headsTogether(group);
                fits[group] = goes && hermits >= 0 && hermits <= bank.told[HERMITS] && bank.agrees(group, bank.over);
            }
        }

        private int firstFit(int all) {
            for (int group = 1; group <= all; group++) {
                if ((group & ~all) == 0 && fits[group] && ways[all ^ group] > 0) {
                    return group;
                }
            }
            return NONE;
        }

        private int waysFrom(int set) {
            int sum = 0;
            for (int group = set; group > 0; group = (group - 1) & set) {
                if (fits[group]) {
                    sum += ways[set ^ group];
                }
            }
            return sum;
        }
    }

    /** A told day. */
    private static final class Day {
        int wrong;
        int over;
        int hired;

        void follow(Bank bank, Shelf row, int n) {
            wrong = NONE;
            over = bank.over;
            hired = 0;
            for (int place = 0; place < n; place++) {
                long group = row.at(place);
                boolean known = group >= 0 && group <= bank.everybody();
                int hire = known ? bank.hireBy((int) group, over) : NONE;
                if (hire == NONE) {
                    wrong = place;
                    return;
                }
                over |= (int) group;
                hired += hire;
            }
        }
    }

    /** A shelf; its content is told as holds tells it. */
    private static final class Shelf {
        static final int SORTS = 5;
        private static final int PARTIES_FROM = 10;

        final long[] elements = new long[MOST_ELEMENTS];
        int content = NONE;
        private int length;

        boolean hasRow() {
            return within(content, 0, SORTS - 1);
        }

        boolean hasParty() {
            return content >= PARTIES_FROM;
        }

        int partyNumber() {
            return content - PARTIES_FROM;
        }

        void takeRow(int sort, int n) {
            Arrays.fill(elements, 0);
            content = sort;
            length = n;
        }

        void takeParty(int party) {
            content = party == NONE ? NONE : PARTIES_FROM + party;
        }

        boolean hasPlaces(int i, int n) {
            return hasRow() && within(n, 0, length) && within(i, 0, length - n);
        }

        long at(int i) {
            return hasPlaces(i, 1) ? elements[i] : 0;
        }

        void put(int i, long v) {
            if (hasPlaces(i, 1)) {
                elements[i] = narrowed(v);
            }
        }

        private long narrowed(long v) {
            switch (content) {
                case 0: return (byte) v;
                case 1: return (short) v;
                case 2: return (int) v;
                case 4: return v != 0 ? 1 : 0;
                default: return v;
            }
        }
    }

    /** Bytes, and how a bank is read from them. */
    private static final class Tape {
        private static final int END = 0;
        private static final int WORD = 1;
        private static final int NUMBER = 2;
        private static final int SIGN = 3;
        private static final int NO_TOKEN = 4;
        private static final int MOST_DIGITS = 2;

        private final int[] bytes = new int[MOST_BYTES];
        int length;
        /** Where the token at hand begins: behind a failed reading, the fault. */
        int place;
        private int end;
        private int token;
        private boolean failed;

        boolean append(int letter) {
            if (!within(length, 0, MOST_BYTES - 1)) {
                return false;
            }
            bytes[length] = letter;
            length++;
            return true;
        }

        /** How many statements the bank took; NONE if it failed, with the bank half changed. */
        int readInto(Bank bank) {
            end = 0;
            failed = false;
            for (int statements = 1; statements <= MOST_BYTES; statements++) {
                readStatement(bank);
                if (failed) {
                    return NONE;
                }
                step();
                if (token == END) {
                    return statements;
                }
                if (token != SIGN) {
                    return NONE;
                }
            }
            return NONE;
        }

        private void readStatement(Bank bank) {
            step();
            if (token != WORD) {
                failed = true;
            } else if (isWord("party")) {
                readParty(bank);
            } else if (isWord("tie")) {
                readTwo(bank, TIED);
            } else if (isWord("shun")) {
                readTwo(bank, SHUNNED);
            } else if (isWord("free")) {
                readTwo(bank, NEITHER);
            } else if (isWord("seats")) {
                readTold(bank, SEATS);
            } else if (isWord("law")) {
                readTold(bank, LAW);
            } else if (isWord("rule")) {
                readTold(bank, RULE);
            } else if (isWord("hermits")) {
                readTold(bank, HERMITS);
            } else if (isWord("cost")) {
                readTold(bank, COST);
            } else {
                failed = true;
            }
        }

        private void readParty(Bank bank) {
            if (!bank.hasRoom()) {
                failed = true;
                return;
            }
            int kind = readNumber(0, KINDS - 1);
            int a = readNumber(0, MOST_A);
            int count = readNumber(1, MOST_SIZE);
            int wallet = readNumber(0, MOST_PURSE);
            if (!failed) {
                bank.add(kind, a, count, wallet);
            }
        }

        private void readTwo(Bank bank, int how) {
            int party = readNumber(0, bank.size - 1);
            int other = readNumber(0, bank.size - 1);
            if (party == other) {
                failed = true;
            }
            if (!failed) {
                bank.relate(party, other, how);
            }
        }

        private void readTold(Bank bank, int what) {
            int v = readNumber(TOLD_LEAST[what], TOLD_MOST[what]);
            if (!failed) {
                bank.told[what] = v;
            }
        }

        // once failed it stays where it is, as the first fault is the one that counts
        private int readNumber(int least, int most) {
            if (failed) {
                return NONE;
            }
            step();
            if (token != NUMBER || end - place > MOST_DIGITS || !within(numberAtHand(), least, most)) {
                failed = true;
                return NONE;
            }
            return numberAtHand();
        }

        private int numberAtHand() {
            int number = 0;
            for (int i = place; i < end && i < place + MOST_DIGITS; i++) {
                number = number * 10 + bytes[i] - '0';
            }
            return number;
        }

        private boolean isWord(String word) {
            if (word.length() != end - place) {
                return false;
            }
            for (int i = 0; i < word.length(); i++) {
                if (bytes[place + i] != word.charAt(i)) {
                    return false;
                }
            }
            return true;
        }

        private void step() {
            place = end;
            while (place < length && bytes[place] == ' ') {
                place++;
            }
            end = place;
            token = tokenAt(place);
            if (token == SIGN) {
                end++;
            }
            while ((token == WORD || token == NUMBER) && end < length && tokenAt(end) == token) {
                end++;
            }
        }

        private int tokenAt(int at) {
            if (!within(at, 0, length - 1)) {
                return END;
            }
            if (within(bytes[at], 'a', 'z')) {
                return WORD;
            }
            if (within(bytes[at], '0', '9')) {
                return NUMBER;
            }
            return bytes[at] == ';' ? SIGN : NO_TOKEN;
        }
    }
}
