import java.lang.reflect.Method;
import java.lang.reflect.Modifier;
import java.nio.file.Files;
import java.nio.file.Path;
import java.util.ArrayList;
import java.util.List;
import java.util.regex.Matcher;
import java.util.regex.Pattern;

/** README.md holds what it says: its example's answers, a row for each call, the refusals of each. */
public final class ReadmeTest {
    private static final Due due = new Due("ReadmeTest");
    private static final Path DOCUMENT = Path.of("../shared/DOC.md");
    private static final Pattern EXAMPLE = Pattern.compile("desk\\.(\\w+)\\((.*)\\); +// (-?\\d+): ");
    private static final Pattern ROW = Pattern.compile("\\| `(\\w+)\\((.*)\\)` \\| .* \\|(.*)\\|");

    public static void main(String[] args) throws Exception {
        String readme = Files.readString(Path.of("README.md"));
        example(readme);
        rows(readme);
        if (Files.isRegularFile(DOCUMENT)) {
            refusals(readme, Files.readString(DOCUMENT));
        }
        due.end();
    }

    private static void example(String readme) throws Exception {
        EmptyBoxes desk = new EmptyBoxes();
        int calls = 0;
        for (String row : readme.split("\n")) {
            Matcher m = EXAMPLE.matcher(row);
            if (m.lookingAt()) {
                calls++;
                due.is(row, answer(desk, m.group(1), m.group(2)), Long.parseLong(m.group(3)));
            } else {
                due.is("a call of the example without its answer: " + row, row.startsWith("desk.") ? 1 : 0, 0);
            }
        }
        due.is("the example has calls", calls > 0 ? 1 : 0, 1);
    }

    private static int answer(EmptyBoxes desk, String name, String arguments) throws Exception {
        Method call = methodOf(name);
        Class<?>[] types = call.getParameterTypes();
        String[] given = arguments.isEmpty() ? new String[0] : arguments.split(", ");
        Object[] values = new Object[types.length];
        for (int i = 0; i < types.length; i++) {
            values[i] = valueOf(types[i], given[i]);
        }
        return (Integer) call.invoke(desk, values);
    }

    private static Object valueOf(Class<?> type, String given) {
        if (type == boolean.class) {
            return Boolean.valueOf(given);
        }
        long number = Long.decode(given.replace("L", ""));
        return type == long.class ? (Object) number : (Object) (int) number;
    }

    private static Method methodOf(String name) {
        for (Method m : EmptyBoxes.class.getDeclaredMethods()) {
            if (m.getName().equals(name) && Modifier.isPublic(m.getModifiers())) {
                return m;
            }
        }
        throw new IllegalArgumentException("README.md names a call that is none: " + name);
    }

    private static void rows(String readme) {
        for (Method m : EmptyBoxes.class.getDeclaredMethods()) {
            if (Modifier.isPublic(m.getModifiers())) {
                Matcher row = rowOf(readme, m.getName());
                String names = row == null ? "no row" : row.group(2);
                int given = names.isEmpty() ? 0 : names.split(", ").length;
                due.is("parameters in the row of " + m.getName(), row == null ? -1 : given, m.getParameterCount());
            }
        }
    }

    private static Matcher rowOf(String readme, String name) {
        Matcher m = ROW.matcher(readme);
        while (m.find()) {
            if (m.group(1).equals(name)) {
                return m;
            }
        }
        return null;
    }

    /** The row of a call has the refusals that its promise names, in the promise's order. */
    private static void refusals(String readme, String document) {
        Matcher promise = Pattern.compile("`int (\\w+)\\(.*\\)`: (.*)").matcher(document);
        int found = 0;
        while (promise.find()) {
            found++;
            Matcher row = rowOf(readme, promise.group(1));
            List<String> told = refusalsIn(row == null ? "" : row.group(3));
            List<String> wanted = refusalsIn(promise.group(2));
            // What NONE means of one what alone stands ahead of NUMBER there, and behind it in the row.
            if (row != null && row.group(3).contains("NONE for")) {
                told.sort(null);
                wanted.sort(null);
            }
            due.is("refusals in the row of " + promise.group(1), told.toString(), wanted.toString());
        }
        due.is("promises with a call", found, 33);
    }

    private static List<String> refusalsIn(String text) {
        List<String> found = new ArrayList<>();
        Matcher m = Pattern.compile("\\b(NUMBER|FULL|NONE|STATE)\\b").matcher(text);
        while (m.find()) {
            if (!found.contains(m.group())) {
                found.add(m.group());
            }
        }
        return found;
    }
}
