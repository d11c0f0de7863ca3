import java.lang.reflect.InvocationTargetException;
import java.lang.reflect.Method;
import java.lang.reflect.Modifier;
import java.util.ArrayList;
import java.util.Comparator;
import java.util.List;

/** Any call with any arguments in any state: none may throw, and the same calls answer the same. */
public final class FuzzTest {
    private static final Check CHECK = new Check("FuzzTest");
    private static final int[] EDGES = {Integer.MIN_VALUE, Integer.MIN_VALUE + 1, -1000001, -1000000, -100001, -100000, -20001, -1000,
        -3, -2, -1, 0, 1, 2, 3, 4, 5, 6, 7, 9, 10, 12, 31, 62, 63, 99, 100, 200, 365, 366, 400, 999, 1000, 1001, 5000, 9999, 10000, 20000,
        99999, 100000, 100001, 999999, 1000000, 1000001, 10000000, Integer.MAX_VALUE - 1, Integer.MAX_VALUE};
    private static final String[] TOKENS = {"year", "extra", "even", "of", "shift", "every", "not", "but", "row", "months", "leap", "week",
        "at", "true", "and", "begins", ";", ";", ";", " ", " ", "\n", "0", "1", "2", "4", "7", "30", "365", "400", "1000", "1000000",
        "12345678", "x", "\u00ff"};

    private final Dice dice;
    private final List<Method> methods = new ArrayList<>();

    private FuzzTest(int seed) {
        dice = new Dice(seed);
        for (Method method : LeapDesigner.class.getDeclaredMethods()) {
            if (Modifier.isPublic(method.getModifiers())) {
                methods.add(method);
            }
        }
        methods.sort(Comparator.comparing(Method::getName));
    }

    public static void main(String[] args) throws Exception {
        for (int seed = 1; seed <= 300; seed++) {
            long first = new FuzzTest(seed).run(seed);
            CHECK.due("seed " + seed + " again", first, new FuzzTest(seed).run(seed));
        }
        CHECK.end();
    }

    private long run(int seed) throws Exception {
        LeapDesigner x = new LeapDesigner();
        long sum = 0;
        for (int i = 0; i < 400; i++) {
            if (dice.once(12)) {
                x.end(0);
                Check.feed(x, dice.coin() ? dice.spoken(dice.model()) : mumbled());
                sum = sum * 31 + x.design(dice.from(0, 5));
            } else {
                sum = sum * 31 + call(x, methods.get(dice.from(0, methods.size() - 1)), seed);
            }
        }
        return sum;
    }

    private String mumbled() {
        StringBuilder text = new StringBuilder();
        int tokens = dice.from(0, 40);
        for (int i = 0; i < tokens; i++) {
            text.append(TOKENS[dice.from(0, TOKENS.length - 1)]).append(dice.once(4) ? "" : " ");
        }
        return text.toString();
    }

    private long call(LeapDesigner x, Method method, int seed) throws Exception {
        Class<?>[] types = method.getParameterTypes();
        Object[] arguments = new Object[types.length];
        for (int i = 0; i < types.length; i++) {
            if (types[i] == boolean.class) {
                arguments[i] = dice.coin();
            } else if (types[i] == long.class) {
                arguments[i] = dice.once(5) ? dice.coin() ? Long.MIN_VALUE : Long.MAX_VALUE : (long) anyInt();
            } else {
                arguments[i] = anyInt();
            }
        }
        try {
            Object answer = method.invoke(x, arguments);
            return answer instanceof Boolean is ? is ? 1 : 0 : ((Number) answer).longValue();
        } catch (InvocationTargetException thrown) {
            CHECK.due("seed " + seed + " " + method + " " + java.util.Arrays.toString(arguments) + " threw " + thrown.getCause(), 0, 1);
            return 0;
        }
    }

    private int anyInt() {
        return dice.once(3) ? EDGES[dice.from(0, EDGES.length - 1)] : dice.from(0, dice.coin() ? 4 : 40);
    }
}
