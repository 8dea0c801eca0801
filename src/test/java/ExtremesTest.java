import java.lang.reflect.InvocationTargetException;
import java.lang.reflect.Method;
import java.util.Arrays;
import java.util.Comparator;

/** Every call with every mix of numbers from far below to far above its bounds: it never throws, and answers as PlainMarket. */
public final class ExtremesTest {
    private static final int[] NUMBERS = {Integer.MIN_VALUE, -41, -1, 0, 1, 3, 9, 11, 41, 99, 100, Integer.MAX_VALUE};
    private static final int CALLS = 400;

    private static LemonMarket x;
    private static PlainMarket y;
    private static int made = 0;
    private static int calls = 0;
    private static int wrong = 0;

    public static void main(String[] args) throws Exception {
        Method[] face = LemonMarket.class.getDeclaredMethods();
        Arrays.sort(face, Comparator.comparing(Method::getName));
        for (Method m : face) {
            if (!java.lang.reflect.Modifier.isPublic(m.getModifiers())) continue;
            Method plain = PlainMarket.class.getDeclaredMethod(m.getName(), m.getParameterTypes());
            plain.setAccessible(true);
            int mixes = (int) Math.pow(NUMBERS.length, m.getParameterCount());
            for (int mix = 0; mix < mixes; mix++) check(m, plain, mix);
        }
        System.out.println("ExtremesTest: " + calls + " calls, " + wrong + " wrong");
        if (wrong != 0) System.exit(1);
    }

    private static void check(Method m, Method plain, int mix) throws IllegalAccessException, InvocationTargetException {
        if (calls % CALLS == 0) renew();
        calls++;
        Object[] numbers = new Object[m.getParameterCount()];
        int rest = mix;
        for (int i = 0; i < numbers.length; i++) {
            int v = NUMBERS[rest % NUMBERS.length];
            numbers[i] = m.getParameterTypes()[i] == long.class ? (Object) (v * 0x1_0000_0001L) : (Object) v;
            rest /= NUMBERS.length;
        }
        String call = m.getName() + Arrays.toString(numbers);
        try {
            Object got = m.invoke(x, numbers);
            Object due = plain.invoke(y, numbers);
            if (!got.equals(due)) fail(call + " answered " + got + ", due is " + due);
        } catch (InvocationTargetException e) {
            fail(call + " threw " + e.getCause());
        }
    }

    private static void fail(String what) {
        wrong++;
        if (wrong <= 20) System.out.println("ExtremesTest: " + what);
    }

    /** By turns with no SORTS and no row, with some, and with all that there can be. */
    private static void renew() {
        x = new LemonMarket();
        y = new PlainMarket();
        int sorts = new int[] {0, 3, 8}[made % 3];
        for (int s = 0; s < sorts; s++) {
            x.sort(10 + s, 11 * s, 99 - 9 * s);
            y.sort(10 + s, 11 * s, 99 - 9 * s);
            x.set(s, 3, 10 - s);
            y.set(s, 3, 10 - s);
            x.set(s, 4, s);
            y.set(s, 4, s);
        }
        for (int k = 0; k < made % 3 + made % 2; k++) {
            x.sheet(k, k % 3, 40);
            y.sheet(k, k % 3, 40);
            for (int i = 0; i < 16; i++) {
                x.lay(k, i, i % 11 + 1);
                y.lay(k, i, i % 11 + 1);
            }
        }
        made++;
    }
}
