import java.lang.reflect.Method;
import java.util.ArrayList;
import java.util.Arrays;
import java.util.Comparator;
import java.util.List;

/** All promises: runs of drawn calls, each answer beside the one of the Model. */
public final class ModelTest {
    private static final Due due = new Due();
    private static final int MOST_CALLS = 512;
    private static final int OBJECTS = Integer.getInteger("objects", 500);
    private static long chance = Long.getLong("start", 20261118L);

    public static void main(String[] args) throws ReflectiveOperationException {
        texts();
        banks();
        calls();
        due.end("ModelTest");
    }

    private static int draw(int n) {
        chance = chance * 6364136223846793005L + 1442695040888963407L;
        return (int) ((chance >>> 33) % n);
    }

    private static int among(int... of) {
        return of[draw(of.length)];
    }

    // ---- banks read from texts

    private static void texts() {
        for (int i = 0; i < 20000; i++) {
            RowsOnlyPrimes x = new RowsOnlyPrimes();
            Model m = new Model();
            for (int bank = 0, fed = 0; bank < 3 && fed < 150; bank++) {
                String text = text();
                fed += text.length();
                for (int k = 0; k < text.length(); k++) {
                    x.feed(text.charAt(k));
                    m.feed(text.charAt(k));
                }
                due.is("bank() of '" + text + "'", x.bank(), m.bank());
            }
            same(x, m);
        }
    }

    private static String text() {
        StringBuilder b = new StringBuilder();
        int statements = 1 + draw(6);
        for (int i = 0; i < statements; i++) {
            b.append(i == 0 ? "" : ";").append(statement());
        }
        if (draw(4) == 0) {
            int place = draw(b.length());
            switch (draw(4)) {
                case 0 -> b.setLength(place);
                case 1 -> b.deleteCharAt(place);
                case 2 -> b.insert(place, "; a9#\t\u00e9A0".charAt(draw(9)));
                default -> b.setCharAt(place, (char) draw(256));
            }
        }
        return b.length() > 250 ? b.substring(0, 250) : b.toString();
    }

    private static String statement() {
        boolean wild = draw(30) == 0;
        String gap = draw(5) == 0 ? "  " : " ";
        int what = draw(10);
        if (what < 5) {
            return String.join(gap, "party", number(0, 5, wild), number(0, 9, wild), number(1, 40, wild), number(0, 99, wild));
        }
        if (what < 8) {
            int p = draw(4);
            int q = wild ? draw(6) : (p + 1 + draw(3)) % 4;
            return String.join(gap, new String[] {"tie", "shun", "free"}[what - 5], "" + p, "" + q);
        }
        int told = draw(5);
        return new String[] {"seats", "law", "rule", "hermits", "cost"}[told] + (draw(5) == 0 ? "" : gap)
            + number(Model.TOLD[told][0], Model.TOLD[told][1], wild) + (draw(8) == 0 ? " " : "");
    }

    private static String number(int least, int most, boolean wild) {
        int v = wild ? draw(2) == 0 ? least - draw(2) : most + draw(3) : least + draw(most - least + 1);
        return draw(12) == 0 && v >= 0 && v < 10 ? "0" + v : "" + Math.abs(v);
    }

    // ---- drawn banks, and what comes of them

    private static void banks() {
        for (int i = 0; i < 1500; i++) {
            RowsOnlyPrimes x = new RowsOnlyPrimes();
            Model m = new Model();
            String text = crowd(1 + draw(i % 100 == 0 ? 8 : 6));
            for (int k = 0; k < text.length(); k++) {
                x.feed(text.charAt(k));
                m.feed(text.charAt(k));
            }
            due.is(text, x.bank(), m.bank());
            if (draw(2) == 0) {
                due.is("days(2)", x.days(2), m.days(2));
            }
            plansOf(text, x, m);
            rowsOf(text, x, m);
            same(x, m);
        }
    }

    private static String crowd(int people) {
        StringBuilder b = new StringBuilder("seats ").append(among(5, 7, 11, 13, 19, 25, 36, 99));
        b.append(";law ").append(among(0, 0, 1, 2, 3)).append(";hermits ").append(among(0, 1, 2, 3, 9));
        int greatest = among(3, 6, 12);
        for (int p = 0; p < people; p++) {
            b.append(";party ").append(draw(6)).append(' ').append(draw(5)).append(' ').append(1 + draw(greatest));
            b.append(' ').append(draw(100));
        }
        for (int bonds = draw(people); bonds > 0 && people > 1; bonds--) {
            int p = draw(people);
            b.append(draw(2) == 0 ? ";tie " : ";shun ").append(p).append(' ').append((p + 1 + draw(people - 1)) % people);
        }
        return b.toString();
    }

    private static void plansOf(String text, RowsOnlyPrimes x, Model m) {
        for (int k = -2; k < 9; k++) {
            due.is(text + ": plan(" + k + ")", x.plan(k), m.plan(k));
        }
        for (int k = 0; k < 8; k++) {
            due.is(text + ": worth(" + k + ")", x.worth(k), m.worth(k));
        }
        for (int k = -1; k < 4; k++) {
            due.is(text + ": laws(" + k + ")", x.laws(k), m.laws(k));
        }
        due.is(text + ": rules()", x.rules(), m.rules());
        due.is(text + ": loosen()", x.loosen(), m.loosen());
        due.is(text + ": time()", x.time(), m.time());
        if (m.s.parties.size() < 6) {
            due.is(text + ": sizes()", x.sizes(), m.sizes());
        }
    }

    /** Rows of numbers that some groups come to, and of groups that have a hire by then. */
    private static void rowsOf(String text, RowsOnlyPrimes x, Model m) {
        x.row(0, 2, 8);
        m.row(0, 2, 8);
        x.row(1, 3, 8);
        m.row(1, 3, 8);
        int over = m.s.overBits();
        for (int place = 0; place < 8; place++) {
            int group = 0;
            for (int tries = 0; tries < 20 && m.s.hire(group, over, m.s.told[3]) == Model.NONE; tries++) {
                group = draw(m.s.all() + 1) & ~over;
            }
            int hermits = draw(m.s.told[3] + 1);
            int aboard = m.s.headsOf(group) + Math.max(hermits, m.s.hire(group, over, m.s.told[3]));
            x.set(0, place, aboard);
            m.set(0, place, aboard);
            x.set(1, place, group);
            m.set(1, place, group);
            over |= group;
        }
        for (int n = 0; n <= 8; n++) {
            for (int what = 0; what < 2; what++) {
                due.is(text + ": crossed by " + n, x.crossed(0, n, what), m.crossed(0, n, what));
                due.is(text + ": behind " + n, x.behind(1, n, what), m.behind(1, n, what));
            }
            due.is(text + ": judge by " + n, x.judge(1, n), m.judge(1, n));
        }
    }

    // ---- calls

    private static void calls() throws ReflectiveOperationException {
        List<Method> methods = new ArrayList<>();
        for (Method m : RowsOnlyPrimes.class.getDeclaredMethods()) {
            if (java.lang.reflect.Modifier.isPublic(m.getModifiers())) {
                methods.add(m);
            }
        }
        methods.sort(Comparator.comparing(Method::getName));
        due.is("methods of the face", methods.size(), 57);
        for (int i = 0; i < OBJECTS; i++) {
            run(methods, i, 220);
            if (i % 10 == 0) {
                run(methods, i, MOST_CALLS);
            }
        }
    }

    /** A run of so many calls; one of all that an object may have is looked at by its answers alone. */
    private static void run(List<Method> methods, int object, int calls) throws ReflectiveOperationException {
        RowsOnlyPrimes x = new RowsOnlyPrimes();
        Model m = new Model();
        int made = 0;
        int most = among(1, 2, 3, 3, 4, 4, 5, 6, object % 20 == 0 ? 8 : 4);
        int greatest = among(3, 5, 8, 40);
        for (int p = 0; p < most; p++) {
            if (draw(5) > 0) {
                int[] party = {draw(6), draw(10), 1 + draw(greatest), draw(100)};
                x.party(party[0], party[1], party[2], party[3]);
                m.party(party[0], party[1], party[2], party[3]);
                made++;
            }
        }
        StringBuilder log = new StringBuilder();
        for (; made < calls; made++) {
            Method method = methods.get(draw(methods.size()));
            while (rare(method.getName(), m, most)) {
                method = methods.get(draw(methods.size()));
            }
            Object[] with = arguments(method, m);
            log.append(' ').append(method.getName()).append(Arrays.toString(with));
            long want = ((Number) Model.class.getDeclaredMethod(method.getName(), method.getParameterTypes())
                .invoke(m, with)).longValue();
            long got = ((Number) method.invoke(x, with)).longValue();
            if (got != want) {
                due.is("object " + object + ":" + log, got, want);
                return;
            }
            due.is("", got, want);
        }
        if (calls < MOST_CALLS) {
            same(x, m);
        }
    }

    /** Calls that are let out this time, so that runs don't grow too large, nor get lost. */
    private static boolean rare(String name, Model m, int most) {
        switch (name) {
            case "party": return m.s.parties.size() >= most && draw(20) > 0;
            case "back": return draw(3) > 0;
            case "bank": return draw(2) > 0;
            case "sizes":
            case "loosen": return m.s.parties.size() > 5 && draw(8) > 0;
            default: return false;
        }
    }

    private static Object[] arguments(Method method, Model m) {
        Class<?>[] types = method.getParameterTypes();
        Object[] with = new Object[types.length];
        boolean wild = draw(12) == 0;
        for (int i = 0; i < types.length; i++) {
            if (types[i] == long.class) {
                with[i] = longValue(m);
            } else if (wild && draw(types.length + 1) == 0) {
                with[i] = among(-3, -2, -1, 0, 1, 2, 3, 4, 5, 6, 7, 8, 9, 10, 40, 41, 60, 61, 99, 100, 255, 256, 400, 401,
                    999, 1000, Integer.MIN_VALUE, Integer.MAX_VALUE);
            } else {
                with[i] = likely(method.getName(), i, m);
            }
        }
        return with;
    }

    private static long longValue(Model m) {
        switch (draw(8)) {
            case 0: return chance;
            case 1: return draw(300) - 20;
            case 2: return 1L << draw(64);
            case 3: return m.s.headsOf(draw(m.s.all() + 1)) + draw(3);
            default: return draw(m.s.all() + 1);
        }
    }

    private static int likely(String name, int i, Model m) {
        int people = m.s.parties.size();
        switch (name + i) {
            case "row1": return draw(5);
            case "row2": return among(draw(41), draw(9), 8);
            case "set1": case "element1": return draw(9);
            case "copy2": case "copy3": case "copy4": return draw(6);
            case "says1": case "party0": case "ofKind0": return draw(6);
            case "party1": return draw(10);
            case "party2": return 1 + draw(among(3, 8, 40));
            case "party3": return among(draw(100), draw(6));
            case "give1": case "bids2": case "crossed2": case "behind2": case "fullest0": return draw(2);
            case "give2": return 1 + draw(among(5, 12, 40));
            case "bind2": return among(0, 0, 1, 2);
            case "tell0": return draw(5);
            case "tell1": return among(draw(4), draw(10), draw(30), 13, 99);
            case "feed0": return "law1;seats29;cost 3;party 0 1 2 3".charAt(draw(33));
            case "partyOf1": return draw(8);
            case "goes0": return among(draw(100), draw(1000));
            case "next0": case "before0": return draw(100);
            case "plan0": return draw(people + 3) - 2;
            case "laws0": return draw(5) - 1;
            case "left0": return draw(401);
            case "ways0": return draw(61);
            case "crossed1": return draw(4);
            case "judge1": case "behind1": return draw(4);
            case "days0": return 1 + draw(among(3, 60));
            case "seed0": return (int) chance;
            case "status0": return draw(18);
            default: return likelyByKind(name, i, people);
        }
    }

    private static int likelyByKind(String name, int i, int people) {
        if (List.of("heads", "hire", "lacks", "fare", "spare", "purses", "cross").contains(name)) {
            return draw(1 << people);
        }
        if (name.equals("copy") || i == 0 && List.of("row", "set", "element", "holds", "show", "says", "crossed", "judge",
                "behind").contains(name)) {
            return draw(4);
        }
        return people == 0 ? 0 : draw(people + (draw(10) == 0 ? 1 : 0));
    }

    private static void same(RowsOnlyPrimes x, Model m) {
        for (int what = -1; what < 19; what++) {
            due.is("status(" + what + ")", x.status(what), m.status(what));
        }
        for (int p = 0; p < 8; p++) {
            due.is("holds(" + p + ")", x.holds(p), m.holds(p));
            for (int what = 0; what < 8 && p < m.s.parties.size(); what++) {
                due.is("partyOf(" + p + ", " + what + ")", x.partyOf(p, what), m.partyOf(p, what));
            }
            for (int place = 0; place < 41 && m.shelves[p] instanceof long[]; place++) {
                due.is("element(" + p + ", " + place + ")", x.element(p, place), m.element(p, place));
            }
        }
    }
}
