import java.lang.reflect.InvocationTargetException;
import java.lang.reflect.Method;
import java.util.ArrayList;
import java.util.Comparator;
import java.util.List;
import java.util.Map;
import java.util.function.IntPredicate;

/**
 * Any call with any arguments in any state: nothing is thrown, each call ends, it answers only what its
 * promise names, and behind a refusal nothing is changed.
 */
public final class AnyCallTest {
    private static final Due due = new Due("AnyCallTest");
    private static final int RUNS = 400;
    private static final int CALLS = 512;
    private static final long MOST_SECONDS = 300;
    private static final int[] WILD = {
        Integer.MIN_VALUE, Integer.MIN_VALUE + 1, Integer.MIN_VALUE + 10, -65536, -10000, -1000, -201, -100, -30, -11,
        -10, -5, -4, -3, -2, -1, 0, 1, 2, 3, 4, 5, 6, 7, 8, 9, 10, 11, 12, 15, 16, 17, 19, 20, 21, 23, 24, 25, 26, 29,
        30, 31, 39, 40, 41, 50, 51, 59, 60, 61, 99, 100, 101, 119, 120, 121, 199, 200, 201, 255, 256, 257, 499, 500,
        501, 900, 998, 999, 1000, 1001, 9998, 9999, 10000, 65535, 65536, 99999, 100000, 1 << 24, 1 << 30,
        Integer.MAX_VALUE - 10, Integer.MAX_VALUE - 1, Integer.MAX_VALUE};
    private static final String TEXT = "day 1;free 2;drop 3 4;room 5 0;worn 6;lost 7; x9";
    /** Which answers each promise names. */
    private static final Map<String, IntPredicate> NAMED = Map.ofEntries(
            Map.entry("days", v -> is(v, -1, -4) || in(v, 1, 200)),
            Map.entry("box", v -> is(v, -1, -2, -4) || in(v, 0, 23)),
            Map.entry("check", v -> in(v, -1, 9)),
            Map.entry("find", v -> is(v, -1, -3) || in(v, 0, 23)),
            Map.entry("of", v -> is(v, -1, -3) || in(v, 0, 999 * 211)),
            Map.entry("word", v -> is(v, -1, -2, -4) || in(v, 0, 59)),
            Map.entry("where", v -> in(v, -1, 5) || in(v, 10, 15) || v == 20),
            Map.entry("since", v -> is(v, -1, -3) || in(v, 0, 200)),
            Map.entry("quarrels", v -> in(v, -1, 59)),
            Map.entry("count", v -> in(v, -1, 24)),
            Map.entry("week", v -> in(v, -1, 9)),
            Map.entry("route", v -> in(v, -2, 9)),
            Map.entry("lack", v -> in(v, -1, 500)),
            Map.entry("least", v -> in(v, 0, 135000)),
            Map.entry("worth", v -> in(v, -1, 500)),
            Map.entry("turn", v -> in(v, -2, 6)),
            Map.entry("leave", v -> in(v, -1, 1)),
            Map.entry("suits", v -> in(v, -1, 1)),
            Map.entry("match", v -> is(v, -1, -3) || in(v, 0, 1400)),
            Map.entry("clear", v -> in(v, 0, 14)),
            Map.entry("feed", v -> in(v, -2, -1) || in(v, 1, 120)),
            Map.entry("read", v -> in(v, -1, 16) || in(v, -220, -100)),
            Map.entry("lease", v -> is(v, -1, -3) || in(v, 0, 999)),
            Map.entry("giveBack", v -> is(v, -1, -2, -4) || in(v, 0, 999 * 211)),
            Map.entry("writeOff", v -> is(v, -1, -4) || in(v, 0, 999 * 202)),
            Map.entry("rate", v -> in(v, -1, 50)),
            Map.entry("use", v -> is(v, -1, -2, -4) || in(v, 0, 39)),
            Map.entry("strike", v -> is(v, -1, -4) || in(v, 0, 201 * 50)),
            Map.entry("net", v -> v == -1 || in(v, 1000000 - 402000, 1000000 + 402000)),
            Map.entry("owes", v -> in(v, -1, 402000)),
            Map.entry("many", v -> in(v, -1, 24 * 999 * 211)),
            Map.entry("keep", v -> v == 1),
            Map.entry("back", v -> is(v, -3, 1)));

    private final Dice dice;
    private final EmptyBoxes x;
    private final int wildness;

    private AnyCallTest(int run) {
        dice = new Dice(run * 104729L + 5);
        x = switch (run % 4) {
            case 0 -> Scenes.BUSY.get();
            case 1 -> Scenes.FULL.get();
            default -> new EmptyBoxes();
        };
        wildness = 1 + run % 7;
    }

    public static void main(String[] args) throws InterruptedException {
        Thread calls = new Thread(AnyCallTest::allRuns);
        calls.setDaemon(true);
        calls.start();
        calls.join(1000 * MOST_SECONDS);
        due.is("every call ends, as one of them is still under way", calls.isAlive() ? 1 : 0, 0);
        due.end();
    }

    private static void allRuns() {
        List<Method> methods = new ArrayList<>();
        for (Method method : EmptyBoxes.class.getDeclaredMethods()) {
            if (NAMED.containsKey(method.getName()) && java.lang.reflect.Modifier.isPublic(method.getModifiers())) {
                methods.add(method);
            }
        }
        methods.sort(Comparator.comparing(Method::getName));
        due.is("all calls", methods.size(), NAMED.size());
        for (int run = 0; run < RUNS && due.allRight(); run++) {
            AnyCallTest one = new AnyCallTest(run);
            for (int call = 0; call < CALLS && due.allRight(); call++) {
                one.ask(methods.get(one.dice.below(methods.size())), run, call);
            }
        }
    }

    private static boolean in(int v, int low, int high) {
        return v >= low && v <= high;
    }

    private static boolean is(int v, int... these) {
        for (int one : these) {
            if (v == one) {
                return true;
            }
        }
        return false;
    }

    private void ask(Method method, int run, int call) {
        Object[] with = new Object[method.getParameterCount()];
        StringBuilder name = new StringBuilder("run " + run + ", call " + call + ": " + method.getName());
        for (int i = 0; i < with.length; i++) {
            Class<?> type = method.getParameterTypes()[i];
            with[i] = type == int.class ? number() : type == long.class ? eight() : (Object) (dice.below(2) == 0);
            name.append(' ').append(with[i]);
        }
        // The picture is dear, so it is not taken ahead of every call.
        boolean isWatched = dice.below(8) == 0 && !method.getName().equals("read");
        String before = isWatched ? Due.picture(x) : "";
        int answer = answer(method, with, name.toString());
        due.is(name + " answers " + answer + ", which its promise names",
                NAMED.get(method.getName()).test(answer) ? 1 : 0, 1);
        if (isWatched && in(answer, -4, -1)) {
            due.is(name + ": it changes nothing", Due.picture(x), before);
        }
    }

    private int answer(Method method, Object[] with, String name) {
        try {
            return (Integer) method.invoke(x, with);
        } catch (InvocationTargetException thrown) {
            due.is(name + " threw " + thrown.getCause(), 1, 0);
        } catch (IllegalAccessException closed) {
            due.is(name + " is closed", 1, 0);
        }
        return 0;
    }

    private int number() {
        return dice.below(10) < wildness ? WILD[dice.below(WILD.length)] : dice.below(6);
    }

    private long eight() {
        if (dice.below(4) == 0) {
            return dice.eight() * (dice.below(2) == 0 ? -1 : 1);
        }
        int from = dice.below(TEXT.length());
        long eight = 0;
        for (int i = 0; i < 8; i++) {
            eight |= (long) TEXT.charAt((from + i) % TEXT.length()) << 8 * i;
        }
        return eight;
    }
}
