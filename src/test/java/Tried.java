import java.lang.reflect.InvocationTargetException;
import java.lang.reflect.Method;
import java.lang.reflect.Modifier;
import java.util.Arrays;
import java.util.HashMap;
import java.util.Map;

/** One wheel under test: each call by its name and its numbers, with the answer that is due. */
final class Tried {
    // what later calls answer is free
    private static final int MOST_CALLS = 512;
    private static final Map<String, Method> CALLS = calls();
    /** Calls that only tell: what they answer shows whether anything was changed. */
    private static final String[] LOOKS = {"digest", "told 2", "told 3", "told 4", "told 5", "greatest", "worst",
        "lean 1", "load 0", "why", "waits 0", "may 0", "stranded", "up 0 0", "up 0 1", "begins", "fit 0 0", "fit 0 1",
        "breaks", "agree"};

    private final EvenWheel wheel = new EvenWheel();
    private final Check check;
    private final String name;
    private int calls;
    private int answers;
    // as it was found behind the last refusal, if nothing was called since
    private long[] looked;

    Tried(Check check, String name) {
        this.check = check;
        this.name = name;
    }

    private static Map<String, Method> calls() {
        Map<String, Method> all = new HashMap<>();
        for (Method method : EvenWheel.class.getDeclaredMethods()) {
            if (Modifier.isPublic(method.getModifiers())) {
                all.put(method.getName(), method);
            }
        }
        return all;
    }

    /** Another wheel for the same test, since one has 512 calls alone. */
    Tried another() {
        answers++;
        return new Tried(check, name);
    }

    boolean looksAtAnswers() {
        return answers > 0;
    }

    /** Calls: the answer. For drive() 1 is true, 0 is false. */
    long ask(String call, int... numbers) {
        looked = null;
        return answer(call, numbers);
    }

    /** Calls, and looks whether the answer is the one that is due. */
    void is(long due, String call, int... numbers) {
        looked = null;
        compare(due, call, numbers);
    }

    /** Calls, and looks whether the answer is the one that is due, and whether nothing was changed by the call. */
    void refuses(long due, String call, int... numbers) {
        long[] before = looked == null ? look() : looked;
        compare(due, call, numbers);
        long[] behind = look();
        for (int i = 0; i < LOOKS.length; i++) {
            check.is(name + ": " + LOOKS[i] + " behind " + told(call, numbers), behind[i], before[i]);
        }
        looked = behind;
    }

    /** That something else, that answers were put together to, is as it should be. */
    void that(String what, boolean holds) {
        answers++;
        check.that(name + ": " + what, holds);
    }

    private long[] look() {
        long[] seen = new long[LOOKS.length];
        for (int i = 0; i < LOOKS.length; i++) {
            String[] words = LOOKS[i].split(" ");
            int[] numbers = Arrays.stream(words).skip(1).mapToInt(Integer::parseInt).toArray();
            seen[i] = answer(words[0], numbers);
        }
        return seen;
    }

    private void compare(long due, String call, int... numbers) {
        answers++;
        check.is(name + ": " + told(call, numbers), answer(call, numbers), due);
    }

    private static String told(String call, int... numbers) {
        return call + Arrays.toString(numbers).replace('[', '(').replace(']', ')');
    }

    private long answer(String call, int... numbers) {
        calls++;
        if (calls == MOST_CALLS + 1) {
            check.that(name + ": more than 512 calls", false);
        }
        Method method = CALLS.get(call);
        if (method == null || method.getParameterCount() != numbers.length) {
            throw new IllegalArgumentException("no such call: " + told(call, numbers));
        }
        try {
            return ((Number) method.invoke(wheel, arguments(method, numbers))).longValue();
        } catch (InvocationTargetException thrown) {
            check.that(name + ": " + told(call, numbers) + " threw " + thrown.getCause(), false);
            return Long.MIN_VALUE;
        } catch (IllegalAccessException hidden) {
            throw new IllegalArgumentException("not public: " + call, hidden);
        }
    }

    private static Object[] arguments(Method method, int... numbers) {
        Object[] all = new Object[numbers.length];
        for (int i = 0; i < numbers.length; i++) {
            boolean yesOrNo = method.getParameterTypes()[i] == boolean.class;
            all[i] = yesOrNo ? (Object) (numbers[i] != 0) : (Object) numbers[i];
        }
        return all;
    }

    /** Persons of so much weight each come and board as one party. */
    void seat(int persons, int each) {
        seat(persons, each, 0);
    }

    void seat(int persons, int each, int wishes) {
        int p = (int) ask("come", persons, each, each, each, wishes);
        check.is(name + ": next() of " + persons + " persons of " + each, ask("next"), p);
    }

    /** As many steps as are told: all are done. */
    void steps(int many) {
        for (int done = 0; done < many; done += 60) {
            int now = Math.min(60, many - done);
            check.is(name + ": " + now + " steps", ask("stop", now), now);
        }
    }

    /** A wheel of n cabins and one person of so much weight in each cabin that has one; turn 0 and a wide BOUND. */
    void lade(int n, int... weights) {
        ask("build", n);
        ask("rule", 0, 1000000);
        ask("rule", 1, 10000);
        ask("rule", 2, 500);
        for (int turn = 0; turn < n; turn++) {
            int c = (n - turn) % n;
            if (c < weights.length && weights[c] > 0) {
                seat(1, weights[c]);
            }
            ask("step");
        }
        check.is(name + ": told(0) when laden", ask("told", 0), 0);
        for (int c = 0; c < weights.length; c++) {
            check.is(name + ": load(" + c + ") when laden", ask("load", c), weights[c]);
        }
    }

    /** Something of each kind: who is ALONE, has seen, waits, was passed over; WARMTH, notes, guesses, readings. */
    void busy() {
        ask("build", 10);
        seat(1, 75, 1);
        steps(1);
        seat(2, 60);
        seat(3, 40, 2);
        ask("come", 5, 60, 70, 80, 0);
        seat(1, 90);
        ask("come", 4, 100, 110, 120, 3);
        ask("come", 1, 33, 44, 55, 0);
        steps(4);
        check.is(name + ": fill() when busy", ask("fill"), 2);
        ask("come", 6, 90, 80, 70, 0);
        steps(3);
        ask("note", 0, 7);
        ask("note", 2, 0);
        ask("note", 1, 3);
        ask("guess", 0, 50, 700);
        ask("guess", 9, 300, 900);
        ask("read", 1, (int) ask("lean", 1), 500);
        ask("read", 4, (int) ask("lean", 4), 0);
        ask("rule", 0, 50000);
        ask("rule", 3, 4);
        ask("drive", 0);
        check.is(name + ": breaks() when busy", ask("breaks"), -1);
        check.that(name + ": WARMTH when busy", ask("told", 1) > 0);
    }
}
