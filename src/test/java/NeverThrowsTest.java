import java.lang.reflect.InvocationTargetException;
import java.lang.reflect.Method;
import java.lang.reflect.Modifier;
import java.util.Arrays;
import java.util.Comparator;
import java.util.Random;

/** No call throws, whatever the numbers and the bytes of the tape are. */
public final class NeverThrowsTest {
    private static final int[] ODD = {Integer.MIN_VALUE, Integer.MIN_VALUE + 1, -1000000, -8, -2, -1, 0, 1, 2, 3, 4, 5, 7, 8, 9, 12, 13, 60, 99, 400, 401, 999, 1000, 4095, 4096, 1000000, Integer.MAX_VALUE - 1, Integer.MAX_VALUE};
    private static final String SIGNS = "runs leaks pays bars block ream set pass times if of at not and or turn level flow hour ring hole bore ()[]<>=+-*/%;0123456789 ";
    private static final Trial t = new Trial("NeverThrowsTest");

    public static void main(String[] args) throws IllegalAccessException {
        Method[] all = Arrays.stream(NightColander.class.getDeclaredMethods()).filter(m -> Modifier.isPublic(m.getModifiers())).toArray(Method[]::new);
        Arrays.sort(all, Comparator.comparing(Method::getName));
        Random random = new Random(5);
        for (int run = 0; run < 200; run++) {
            NightColander x = new NightColander();
            for (int call = 0; call < 300; call++) {
                Method m = all[random.nextInt(all.length)];
                t.due(m.getName() + " threw", threw(x, m, random) ? 1 : 0, 0);
                if (random.nextInt(8) == 0) {
                    Trial.feed(x, scraps(random));
                }
            }
        }
        t.end();
    }

    private static boolean threw(NightColander x, Method m, Random random) throws IllegalAccessException {
        Object[] numbers = new Object[m.getParameterCount()];
        for (int i = 0; i < numbers.length; i++) {
            numbers[i] = random.nextInt(3) == 0 ? ODD[random.nextInt(ODD.length)] : random.nextInt(8);
        }
        try {
            m.invoke(x, numbers);
            return false;
        } catch (InvocationTargetException e) {
            return true;
        }
    }

    private static String scraps(Random random) {
        StringBuilder s = new StringBuilder();
        for (int i = random.nextInt(60); i >= 0; i--) {
            int at = random.nextInt(SIGNS.length());
            s.append(SIGNS, at, Math.min(SIGNS.length(), at + random.nextInt(9)));
            if (random.nextInt(40) == 0) {
                s.append((char) random.nextInt(256));
            }
        }
        return s.length() > 300 ? s.substring(0, 300) : s.toString();
    }
}
