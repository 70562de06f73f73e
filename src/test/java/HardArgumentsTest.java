import java.lang.reflect.InvocationTargetException;
import java.lang.reflect.Method;
import java.lang.reflect.Modifier;

/** Every call with hard arguments in many states: none throws, and one that refuses changes nothing. */
public final class HardArgumentsTest {
    private static final Check CHECK = new Check("HardArgumentsTest");
    private static final int[] HARD = {Integer.MIN_VALUE, -1, 0, 1, 5, 6, 30, 901, Integer.MAX_VALUE};
    private static final int STATES = 7;
    // with what brings a wheel into its state, under the 512 calls that it is used for
    private static final int WAYS_OF_ONE_WHEEL = 100;

    public static void main(String[] args) throws IllegalAccessException {
        for (int state = 0; state < STATES; state++) {
            for (Method method : EvenWheel.class.getDeclaredMethods()) {
                if (Modifier.isPublic(method.getModifiers())) {
                    callInAllWays(method, state);
                }
            }
        }
        CHECK.end();
    }

    private static void callInAllWays(Method method, int state) throws IllegalAccessException {
        Class<?>[] types = method.getParameterTypes();
        int ways = 1;
        for (int i = 0; i < types.length; i++) {
            ways *= HARD.length;
        }
        EvenWheel x = inState(state);
        for (int way = 0; way < ways; way++) {
            if (way % WAYS_OF_ONE_WHEEL == 0 && way > 0) {
                x = inState(state);
            }
            Object[] arguments = new Object[types.length];
            int rest = way;
            for (int i = 0; i < types.length; i++) {
                int hard = HARD[rest % HARD.length];
                rest /= HARD.length;
                arguments[i] = types[i] == boolean.class ? (Object) (hard > 0) : (Object) hard;
            }
            callOnce(x, method, arguments);
        }
    }

    private static void callOnce(EvenWheel x, Method method, Object[] arguments) throws IllegalAccessException {
        String call = method.getName() + java.util.Arrays.toString(arguments);
        long before = x.digest();
        long answer;
        try {
            answer = ((Number) method.invoke(x, arguments)).longValue();
        } catch (InvocationTargetException thrown) {
            CHECK.that(call + " threw " + thrown.getCause(), false);
            return;
        }
        if (answer <= EvenWheel.UNKNOWN && answer >= EvenWheel.FULL) {
            CHECK.unchanged(call, x, before);
        }
    }

    private static EvenWheel inState(int state) {
        EvenWheel x = new EvenWheel();
        if (state == 0) {
            return x;
        }
        x.build(state % 2 == 0 ? 30 : 6);
        x.rule(0, 1000000);
        x.rule(1, 10000);
        for (int i = 0; i < state * 5 && i < 30; i++) {
            x.come(1 + i % 6, 50, 150, 20 + i, i % 7 == 0 ? 1 : 0);
            x.fill();
            x.stop(i % 3);
        }
        for (int i = 0; i < 30 && state > 2; i++) {
            x.come(6, 50, 50, 50, 0);
        }
        for (int i = 0; i < 40 && state > 3; i++) {
            x.note(i % 3, i % 3 == 2 ? 0 : i % 7);
        }
        for (int i = 0; i < 12 && state > 4; i++) {
            x.read(i % 6, x.lean(i % 6) + 7, 10);
        }
        if (state == 6) {
            x.drive(false);
            x.rule(0, 0);
        }
        return x;
    }
}
