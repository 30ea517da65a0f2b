import java.lang.reflect.InvocationTargetException;
import java.lang.reflect.Method;
import java.lang.reflect.Modifier;
import java.util.ArrayList;
import java.util.Comparator;
import java.util.List;
import java.util.Random;

/** Any calls with any arguments: none throws, and the same calls give the same answers. */
public final class CalmTest {
    private static final Due DUE = new Due();
    private static final int CALLS = 512;
    private static final int MOST_CALLS_OF_A_TEXT = 48;
    private static final String[] PIECES = {"sight ", "disc ", "thing ", "way ", "knows ", "blind ", "line ", "show ", "times ",
        "when ", "or ", "and ", "not ", "all ", "column ", "row ", "bright ", "light ", "kind ", "min(", "max(", "a ", "b ", "c ",
        "1 ", "3 ", "9 ", "0 ", "99 ", "12345 ", "abcdefg ", "; ", ";", "( ", ") ", "[ ", "] ", ", ", "+ ", "- ", "* ", "/ ",
        "< ", "> ", "= ", "\n", "A", "\u00ff", "\0"};
    private static final String[] FIELDS = {Due.FIELD, "thing a 2; thing b 6; sight column when row < 9;",
        "thing a 3; sight 9 when (column + row) / 2 * 2 = column + row; disc 0 0;", ""};
    private static final String[] LAWS = {Due.LAW, Due.SURE, Due.EYE, "way a blind light * 9 / column when not kind = 0; line light when all;", ""};
    private static final String[] PLANS = {"times 9[times 9[times 9[times 9[times 9[times 9[];];];];];];",
        "times 9[times 9[show a 1 1 bright * bright;];];", "show cross 11 7 light - 5; show face 0 0 99;"};

    public static void main(String[] args) throws Exception {
        List<Method> calls = new ArrayList<>();
        for (Method method : BlindSide.class.getDeclaredMethods()) {
            if (Modifier.isPublic(method.getModifiers())) {
                calls.add(method);
            }
        }
        calls.sort(Comparator.comparing(Method::getName));
        for (int seed = 0; seed < 500; seed++) {
            DUE.is("answers again of seed " + seed, answers(calls, seed), answers(calls, seed));
        }
        DUE.end();
    }

    private static long answers(List<Method> calls, int seed) throws Exception {
        Random random = new Random(seed);
        BlindSide x = new BlindSide();
        long sum = 0;
        int called = 0;
        while (called < CALLS - MOST_CALLS_OF_A_TEXT) {
            Method call = calls.get(random.nextInt(calls.size()));
            if (call.getName().equals("field") || call.getName().equals("law") || call.getName().equals("plan")) {
                String text = text(random, call.getName());
                Due.feed(x, text);
                called += 2 + (text.length() + 19) / 20;
            }
            called++;
            Object answer = answer(x, call, arguments(random, call));
            sum = 31 * sum + answer.hashCode();
        }
        return sum;
    }

    private static Object answer(BlindSide x, Method call, Object[] arguments) throws Exception {
        try {
            return call.invoke(x, arguments);
        } catch (InvocationTargetException thrown) {
            DUE.is(call + " has thrown " + thrown.getCause(), 1, 0);
            return 0;
        }
    }

    private static Object[] arguments(Random random, Method call) {
        Class<?>[] types = call.getParameterTypes();
        Object[] arguments = new Object[types.length];
        for (int k = 0; k < types.length; k++) {
            if (types[k] == boolean.class) {
                arguments[k] = random.nextBoolean();
            } else if (types[k] == long.class) {
                arguments[k] = random.nextInt(4) == 0 ? random.nextLong() : (long) random.nextInt();
            } else {
                arguments[k] = number(random);
            }
        }
        return arguments;
    }

    private static int number(Random random) {
        switch (random.nextInt(24)) {
            case 0: return Integer.MAX_VALUE;
            case 1: return Integer.MIN_VALUE;
            case 2: return random.nextInt();
            case 3: return random.nextInt(120) - 10;
            default: return random.nextInt(5) - (random.nextInt(4) == 0 ? 1 : 0);
        }
    }

    private static String text(Random random, String call) {
        String[] good = call.equals("field") ? FIELDS : call.equals("law") ? LAWS : PLANS;
        if (random.nextInt(3) > 0) {
            return good[random.nextInt(good.length)];
        }
        StringBuilder text = new StringBuilder(random.nextBoolean() ? "" : good[random.nextInt(good.length)]);
        for (int k = random.nextInt(60); k > 0; k--) {
            text.insert(random.nextInt(4) == 0 ? random.nextInt(text.length() + 1) : text.length(), PIECES[random.nextInt(PIECES.length)]);
        }
        return text.length() > 880 ? text.substring(0, 880) : text.toString();
    }
}
