import java.io.IOException;
import java.lang.reflect.Method;
import java.nio.file.Files;
import java.nio.file.Path;
import java.util.regex.Matcher;
import java.util.regex.Pattern;

/** What README.md says of the class: its examples, and its table of refusals. */
public final class ReadmeTest {
    private static final Pattern CALL = Pattern.compile("x\\.(\\w+)\\(([-0-9, ]*)\\); +// (-?\\d+)(:.*)?");
    private static final Pattern TEXT = Pattern.compile("for \\(char c : \"(.*)\"\\.toCharArray\\(\\)\\) \\{");
    private static final Pattern REFUSAL = Pattern.compile("\\| (-\\d+) \\| ([A-Z]+) \\| .* \\| `status\\((\\d+)\\)` \\|");
    private static final Due due = new Due();

    public static void main(String[] args) throws IOException, ReflectiveOperationException {
        String readme = Files.readString(Path.of("README.md"));
        examples(readme);
        refusals(readme);
        due.end("ReadmeTest");
    }

    private static void examples(String readme) throws ReflectiveOperationException {
        RowsOnlyPrimes x = null;
        boolean code = false;
        for (String line : readme.split("\n")) {
            if (line.startsWith("```")) {
                code = line.equals("```java");
            } else if (code && line.equals("RowsOnlyPrimes x = new RowsOnlyPrimes();")) {
                x = new RowsOnlyPrimes();
            } else if (code) {
                example(x, line);
            }
        }
    }

    private static void example(RowsOnlyPrimes x, String line) throws ReflectiveOperationException {
        Matcher text = TEXT.matcher(line);
        Matcher call = CALL.matcher(line);
        if (text.matches()) {
            Due.feed(x, text.group(1));
        } else if (call.matches()) {
            due.is(line, answer(x, call.group(1), call.group(2)), Long.parseLong(call.group(3)));
        } else {
            due.is("a line that isn't looked at: " + line, line.equals("    x.feed(c);") || line.equals("}") ? 0 : 1, 0);
        }
    }

    private static long answer(RowsOnlyPrimes x, String name, String numbers) throws ReflectiveOperationException {
        String[] words = numbers.isEmpty() ? new String[0] : numbers.split(", ");
        for (Method method : RowsOnlyPrimes.class.getMethods()) {
            if (method.getName().equals(name) && method.getParameterCount() == words.length) {
                Object[] with = new Object[words.length];
                for (int i = 0; i < with.length; i++) {
                    boolean wide = method.getParameterTypes()[i] == long.class;
                    with[i] = wide ? (Object) Long.valueOf(words[i]) : (Object) Integer.valueOf(words[i]);
                }
                return ((Number) method.invoke(x, with)).longValue();
            }
        }
        throw new NoSuchMethodException(name);
    }

    private static void refusals(String readme) {
        Matcher rows = REFUSAL.matcher(readme);
        int found = 0;
        while (rows.find()) {
            RowsOnlyPrimes x = new RowsOnlyPrimes();
            refuseOnce(x, rows.group(2), Integer.parseInt(rows.group(1)));
            due.is(rows.group(), x.status(Integer.parseInt(rows.group(3))), 1);
            found++;
        }
        due.is("refusals in the table", found, 5);
    }

    private static void refuseOnce(RowsOnlyPrimes x, String refusal, int number) {
        for (int i = 0; i < 8; i++) {
            x.party(0, 0, 1, 0);
        }
        x.row(0, 0, 1);
        switch (refusal) {
            case "BAD" -> due.is("BAD", x.goes(-1), number);
            case "OTHER" -> due.is("OTHER", x.says(0, 0), number);
            case "NOTHING" -> due.is("NOTHING", x.says(1, 0), number);
            case "STUCK" -> due.is("STUCK", x.back(), number);
            default -> due.is("FULL", x.party(0, 0, 1, 0), number);
        }
    }
}
