import java.lang.reflect.Method;
import java.lang.reflect.Modifier;
import java.util.ArrayList;
import java.util.Arrays;
import java.util.Comparator;
import java.util.List;
import java.util.stream.IntStream;

/** All promises: each call with each number near a boundary, beside the one of the Model, in banks of several states. */
public final class CornersTest {
    private static final int MIN = Integer.MIN_VALUE;
    private static final int MAX = Integer.MAX_VALUE;
    private static final Due due = new Due();

    // calls by which each state comes to be; a text in '' is fed
    private static final String[] STATES = {
        "",
        "party 0 0 4 20;party 1 3 5 12;party 2 2 6 7;bind 0 1 1;bind 1 2 2;image;cross 4;party 0 0 7 5;row 0 3 5;set 0 0 8;set 0 1 3;"
            + "show 1 1;show 2 3;row 3 0 3;set 3 0 7;seed 77;'law 1'",
        "party 0 0 1 9;party 0 0 2 9;party 0 0 3 9;party 0 0 4 9;party 0 0 5 9;party 0 0 6 9;party 0 0 7 9;party 0 0 8 9;tell 3 1;"
            + "row 0 3 40;set 0 0 1;set 0 1 2;row 7 2 8;show 6 7;bind 0 7 1;bind 2 5 2",
        "party 3 9 40 0;party 4 9 40 99;tell 0 99;tell 1 3;tell 3 9;tell 4 9;row 2 4 2;row 0 1 0;image;cross 1;cross 2;days 3;'seats'"};
    private static final int[] ONE = IntStream.concat(IntStream.range(-1100, 1100), IntStream.of(MIN, MIN + 1, MAX - 1, MAX, 65536))
        .toArray();
    private static final int[] TWO = {MIN, -1002, -3, -2, -1, 0, 1, 2, 3, 4, 5, 6, 7, 8, 9, 10, 13, 39, 40, 41, 60, 61, 98, 99, 100, 255,
        256, MAX};
    private static final int[] THREE = {MIN, -2, -1, 0, 1, 2, 3, 5, 7, 8, 40, 41, 99, 100, MAX};
    private static final int[] FOUR = {-1, 0, 1, 5, 6, 9, 10, 40, 41, 99, 100};
    private static final int[] FIVE = {-1, 0, 1, 3, 8, MAX};

    /** One method of the class, the Model's method of that name, and what both are told. */
    private record Call(Method method, Method twin, Object[] with) {
        long of(RowsOnlyPrimes x) throws ReflectiveOperationException {
            return ((Number) method.invoke(x, with)).longValue();
        }

        long of(Model m) throws ReflectiveOperationException {
            return ((Number) twin.invoke(m, with)).longValue();
        }
    }

    private static final List<Method> methods = new ArrayList<>();
    private static final List<Method> twins = new ArrayList<>();

    public static void main(String[] args) throws ReflectiveOperationException {
        for (Method method : RowsOnlyPrimes.class.getDeclaredMethods()) {
            if (Modifier.isPublic(method.getModifiers())) {
                methods.add(method);
            }
        }
        methods.sort(Comparator.comparing(Method::getName));
        due.is("methods of the face", methods.size(), 57);
        for (Method method : methods) {
            twins.add(Model.class.getDeclaredMethod(method.getName(), method.getParameterTypes()));
        }
        for (String text : STATES) {
            List<Call> state = state(text);
            for (int i = 0; i < methods.size(); i++) {
                Object[] with = new Object[methods.get(i).getParameterCount()];
                corners(state, new Call(methods.get(i), twins.get(i), with), 0);
            }
        }
        due.end("CornersTest");
    }

    private static List<Call> state(String text) {
        List<Call> calls = new ArrayList<>();
        for (String call : text.isEmpty() ? new String[0] : text.split(";")) {
            if (call.startsWith("'")) {
                for (int i = 1; i < call.length() - 1; i++) {
                    calls.add(call("feed", "" + (int) call.charAt(i)));
                }
            } else {
                calls.add(call(call.split(" ")));
            }
        }
        return calls;
    }

    private static Call call(String... words) {
        int i = 0;
        while (!methods.get(i).getName().equals(words[0])) {
            i++;
        }
        Object[] with = new Object[words.length - 1];
        for (int k = 0; k < with.length; k++) {
            int v = Integer.parseInt(words[k + 1]);
            with[k] = methods.get(i).getParameterTypes()[k] == long.class ? (Object) (long) v : (Object) v;
        }
        return new Call(methods.get(i), twins.get(i), with);
    }

    private static void corners(List<Call> state, Call call, int place) throws ReflectiveOperationException {
        if (place == call.with.length) {
            corner(state, call);
            return;
        }
        boolean wide = call.method.getParameterTypes()[place] == long.class;
        int[] numbers = new int[][] {{0}, ONE, TWO, THREE, FOUR, FIVE}[call.with.length];
        for (int v : wide ? new int[] {MIN, -1, 0, 1, 255} : numbers) {
            call.with[place] = wide ? (Object) (v * 16777217L) : (Object) v;
            corners(state, call, place + 1);
        }
    }

    private static void corner(List<Call> state, Call call) throws ReflectiveOperationException {
        RowsOnlyPrimes x = new RowsOnlyPrimes();
        Model m = new Model();
        for (Call ahead : state) {
            is(ahead, "ahead", ahead.of(x), ahead.of(m));
        }
        is(call, "answer", call.of(x), call.of(m));
        for (int what = 0; what < 18; what++) {
            is(call, "status then", x.status(what), m.status(what));
        }
        for (int i = 0; i < 8; i++) {
            is(call, "holds then", x.holds(i), m.holds(i));
            is(call, "element then", x.element(i, 0), m.element(i, 0));
            is(call, "partyOf then", x.partyOf(i, 4), m.partyOf(i, 4));
        }
    }

    // a label is made where it is needed, as there are many millions of answers
    private static void is(Call call, String what, long got, long want) {
        due.is(got == want ? "" : call.method.getName() + Arrays.toString(call.with) + ": " + what, got, want);
    }
}
