import java.lang.reflect.InvocationTargetException;
import java.lang.reflect.Method;
import java.lang.reflect.Modifier;
import java.util.Arrays;
import java.util.Comparator;

/**
 * Any call with any numbers in any state: nothing is thrown, all comes to an end, and two objects that are called alike
 * answer alike (nothing hangs on which object it is, or on what others were called ahead).
 */
public final class AnyCallTest {
    private static final long[] NUMBERS = {Integer.MIN_VALUE, Integer.MIN_VALUE + 1, -2, -1, 0, 1, 2, 4, 59, 100, Integer.MAX_VALUE};
    private static final int MOST_CALLS = 500;

    private final Check c;
    private final State state;
    private DonkeyBridge x;
    private DonkeyBridge twin;
    private int calls;

    private AnyCallTest(Check c, State state) {
        this.c = c;
        this.state = state;
        renew();
    }

    private void renew() {
        x = state.make();
        twin = state.make();
        calls = 240;
    }

    private static Method[] methods() {
        Method[] all = Arrays.stream(DonkeyBridge.class.getDeclaredMethods())
            .filter(m -> Modifier.isPublic(m.getModifiers())).toArray(Method[]::new);
        Arrays.sort(all, Comparator.comparing(Method::getName));
        return all;
    }

    private static Object fit(Class<?> type, long n) {
        return type == int.class ? (Object) (int) n : (Object) n;
    }

    private static String answer(Method m, DonkeyBridge to, Object[] told) throws IllegalAccessException {
        try {
            return String.valueOf(m.invoke(to, told));
        } catch (InvocationTargetException e) {
            return String.valueOf(e.getCause());
        }
    }

    private void call(Method m, Object[] told) throws IllegalAccessException {
        calls++;
        if (calls > MOST_CALLS) {
            renew();
        }
        String got = answer(m, x, told);
        String call = m.getName() + Arrays.toString(told) + " in state " + state;
        c.due(call + " answered " + got + ": whether that is a number", got.matches("-?\\d+") ? 1 : 0, 1);
        c.due(call + ": whether a second object answers " + got, answer(m, twin, told).equals(got) ? 1 : 0, 1);
    }

    private void callAll(Method m, Object[] told, int from) throws IllegalAccessException {
        if (from == told.length) {
            call(m, told);
            return;
        }
        // five numbers have too many ways to go through all
        long[] numbers = told.length > 3 ? new long[] {Integer.MIN_VALUE, -1, 0, 2, Integer.MAX_VALUE} : NUMBERS;
        for (long n : numbers) {
            told[from] = fit(m.getParameterTypes()[from], n);
            callAll(m, told, from + 1);
        }
    }

    public static void main(String[] args) throws IllegalAccessException {
        Check c = new Check("AnyCallTest");
        c.due("how many methods", methods().length, 36);
        for (State s : State.values()) {
            AnyCallTest t = new AnyCallTest(c, s);
            for (Method m : methods()) {
                t.callAll(m, new Object[m.getParameterCount()], 0);
            }
        }
        c.end();
    }
}
