import java.lang.reflect.InvocationTargetException;
import java.lang.reflect.Method;
import java.util.Arrays;
import java.util.Comparator;

/**
 * All promises: every call by every meeting of arguments that lie at a bound, beside one or far off, asked of the class and
 * of Plain, in a land that is new, in one with some of everything and in one that is full.
 */
public final class AnyArgumentsTest {
    private static final int MIN = Integer.MIN_VALUE, MAX = Integer.MAX_VALUE;

    /** By how many arguments a call has. */
    private static final int[][] VALUES = {
        {},
        {MIN, MIN + 9, MIN + 10, -257, -2, -1, 0, 1, 2, 3, 4, 5, 6, 7, 8, 9, 10, 11, 12, 19, 20, 21, 24, 25, 26, 39, 40, 41,
            98, 99, 100, 319, 320, 321, 998, 999, 1000, 9999, 10000, MAX - 1, MAX},
        {MIN, MIN + 9, -1, 0, 1, 2, 3, 4, 5, 6, 7, 8, 9, 10, 11, 12, 25, 26, 40, 41, 99, 100, 999, 1000, MAX},
        {MIN, -1, 0, 1, 2, 3, 4, 5, 6, 8, 10, 11, 12, 20, 21, 25, 26, 40, 41, 9999, 10000, MAX},
        {MIN, -1, 0, 1, 2, 3, 4, 19, 20, 21, 39, MAX},
    };

    /** An object is used for no more than 512 calls. */
    private static final int CALLS = 300;

    private SameMan man;
    private Plain plain;
    private int calls;

    public static void main(String[] args) throws ReflectiveOperationException {
        Method[] methods = SameMan.class.getDeclaredMethods();
        Arrays.sort(methods, Comparator.comparing(Method::getName));
        for (int land = 0; land < 3; land++) {
            for (Method method : methods) {
                if (java.lang.reflect.Modifier.isPublic(method.getModifiers())) {
                    new AnyArgumentsTest().all(method, land);
                }
            }
        }
        Check.finish("AnyArgumentsTest");
    }

    private void all(Method method, int land) throws ReflectiveOperationException {
        Method other = Plain.class.getDeclaredMethod(method.getName(), method.getParameterTypes());
        int[] values = VALUES[method.getParameterCount()];
        int meetings = 1;
        for (int i = 0; i < method.getParameterCount(); i++) {
            meetings *= values.length;
        }
        calls = CALLS;
        for (int m = 0; m < meetings && Check.wrong() == 0; m++) {
            Object[] arguments = new Object[method.getParameterCount()];
            int rest = m;
            for (int i = 0; i < arguments.length; i++) {
                int v = values[rest % values.length];
                rest /= values.length;
                arguments[i] = method.getParameterTypes()[i] == long.class ? (Object) ((long) v << 32 | v & 0xffffffffL) : v;
            }
            if (calls >= CALLS) {
                begin(land);
            }
            ask(method.getName() + Arrays.toString(arguments) + " in land " + land, method, other, arguments);
        }
    }

    private void begin(int land) {
        man = land == 0 ? new SameMan() : land == 1 ? Edge.some() : Edge.full();
        plain = land == 0 ? new Plain() : land == 1 ? Script.some(new Plain()) : Script.full(new Plain());
        calls = 100;
    }

    private void ask(String call, Method method, Method other, Object[] arguments) throws ReflectiveOperationException {
        int want = (int) other.invoke(plain, arguments);
        try {
            Check.due(call, (int) method.invoke(man, arguments), want);
        } catch (InvocationTargetException e) {
            Check.due(call + " threw " + e.getCause(), 1, 0);
        }
        Check.due("people behind " + call, man.rule(0), plain.rule(0));
        Check.due("worths behind " + call, man.count(5), plain.count(5));
        Check.due("torn behind " + call, man.torn(), plain.torn());
        calls += 4;
    }
}
