import java.lang.reflect.InvocationTargetException;
import java.lang.reflect.Method;
import java.util.Arrays;
import java.util.Comparator;

/** Any call with any numbers in any state: none throws, and what only asks changes nothing. */
final class AnyCallTest {
    private static final long[] ODD = {
        Integer.MIN_VALUE, Integer.MAX_VALUE, -10000, -1000, -999, -301, -300, -51, -50, -3, -2, -1, 0, 1, 2, 3, 4, 5, 6,
        7, 8, 9, 10, 11, 12, 13, 15, 17, 18, 20, 24, 31, 32, 50, 60, 61, 63, 99, 100, 126, 127, 199, 200, 300, 301, 400,
        600, 601, 999, 1000, 1199, 1200, 1201, 9999, 10000, 99999, 100000};
    private static final String ASKING =
        " warmth sea first about as fault says sum lost way could was laid driven week turns falls safe earns stable"
            + " plan count digest ";

    private AnyCallTest() {
    }

    static void run() {
        Method[] calls = Arrays.stream(ColdHolds.class.getDeclaredMethods())
            .filter(m -> m.getModifiers() == java.lang.reflect.Modifier.PUBLIC)
            .sorted(Comparator.comparing(Method::getName))
            .toArray(Method[]::new);
        for (int seed = 0; seed < 150; seed++) {
            Dice r = new Dice(seed);
            ColdHolds x = new ColdHolds();
            for (int i = 0; i < 256; i++) {
                Method call = calls[r.nextInt(calls.length)];
                Object[] with = numbers(call, r);
                long before = x.digest();
                long answer = answer(x, call, with);
                String told = call.getName() + Arrays.toString(with);
                boolean asks = ASKING.contains(" " + call.getName() + " ");
                boolean refused = answer <= -101 && answer >= -104 && !call.getName().equals("sum");
                if (asks || refused && !call.getName().matches("warm|owe|gives|engine|farm|days")) {
                    Due.is(told + " changes nothing", x.digest(), before);
                }
            }
        }
    }

    private static Object[] numbers(Method call, Dice r) {
        Class<?>[] types = call.getParameterTypes();
        Object[] with = new Object[types.length];
        boolean small = r.nextInt(3) > 0;
        for (int i = 0; i < types.length; i++) {
            if (types[i] == boolean.class) {
                with[i] = r.nextBoolean();
            } else if (types[i] == long.class) {
                with[i] = r.nextInt(8) == 0 ? r.nextLong() : page(r);
            } else {
                with[i] = small ? r.nextInt(12) : (int) ODD[r.nextInt(ODD.length)];
            }
        }
        return with;
    }

    private static long page(Dice r) {
        String[] pieces = {"W:r<1", "S:t=h*k", "C:(r)>0", "((((((((", "W:", "999*999*", "<1", "x", ""};
        return Due.word(pieces[r.nextInt(pieces.length)]);
    }

    private static long answer(ColdHolds x, Method call, Object[] with) {
        try {
            return ((Number) call.invoke(x, with)).longValue();
        } catch (InvocationTargetException thrown) {
            Due.is(call.getName() + Arrays.toString(with) + " throws " + thrown.getCause(), 1, 0);
            return 0;
        } catch (IllegalAccessException shut) {
            Due.is(call.getName() + " cannot be called", 1, 0);
            return 0;
        }
    }
}
