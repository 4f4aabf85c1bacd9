import java.lang.reflect.Method;
import java.lang.reflect.Modifier;

/** No call may throw, whatever its arguments: every method with numbers from the ends of what there is. */
public final class ExtremesTest {
    private static final int[] NUMBERS = {Integer.MIN_VALUE, -2, -1, 0, 1, 6, 11, 12, 60, 120, 400, Integer.MAX_VALUE};
    private static final Check CHECK = new Check();

    public static void main(String[] args) throws Exception {
        StringBuilder full = new StringBuilder("hall 10 8;spot 9 7");
        for (int i = 0; i < 12; i++) {
            full.append(";guest ").append(i % 6).append(' ').append(i / 6).append(" 99 9");
        }
        full.append(";fan 0 0 1 9".repeat(6)).append(";snow 9 7 1".repeat(4));
        for (String hall : new String[] {"", "hall 1 1", "hall 2 1;guest 1 0 5 1", full.toString()}) {
            for (int laws = 0; laws <= 6; laws += 3) {
                DeafSpot spot = new DeafSpot();
                if (!hall.isEmpty()) {
                    CHECK.due("hall", Check.hall(spot, hall) >= 0, true);
                }
                for (int i = 0; i < laws; i++) {
                    CHECK.due("law", Check.law(spot, "go heat-" + i), i);
                }
                callAll(spot);
            }
        }
        CHECK.finish();
    }

    private static void callAll(DeafSpot spot) throws Exception {
        for (Method method : DeafSpot.class.getDeclaredMethods()) {
            if (Modifier.isPublic(method.getModifiers())) {
                int n = method.getParameterCount();
                // with many parameters a part of the numbers, walked through unevenly, is enough
                int all = (int) Math.pow(NUMBERS.length, n);
                int step = n < 4 ? 1 : n == 4 ? 7 : 131;
                for (int k = 0; k < all; k += step) {
                    call(spot, method, k, n);
                }
            }
        }
    }

    private static void call(DeafSpot spot, Method method, int k, int n) throws Exception {
        Object[] values = new Object[n];
        int rest = k;
        for (int i = 0; i < n; i++) {
            values[i] = NUMBERS[rest % NUMBERS.length];
            rest /= NUMBERS.length;
        }
        boolean thrown = false;
        try {
            method.invoke(spot, values);
        } catch (java.lang.reflect.InvocationTargetException e) {
            thrown = true;
        }
        CHECK.due(method.getName() + java.util.Arrays.toString(values) + " throws", thrown, false);
    }
}
