import java.lang.reflect.InvocationTargetException;
import java.lang.reflect.Method;
import java.lang.reflect.Modifier;
import java.util.NoSuchElementException;
import java.util.Random;

/**
 * Every call with numbers far out of bounds, without a meadow and with one: nothing but person's
 * NoSuchElementException is ever thrown, and what is refused changes nothing.
 */
public final class WrongInputsTest {
    private static final int[] NUMBERS = {-2147483648, -2147483647, -1000001, -1000000, -1000, -101, -100, -99, -12,
        -11, -10, -6, -5, -2, -1, 0, 1, 2, 5, 6, 9, 10, 11, 12, 19, 20, 60, 61, 99, 100, 101, 999, 1000, 1001, 6100,
        543210, 1000000, 999999999, 1000000000, 1000000001, 2147483646, 2147483647};
    private static int wrong = 0;

    private static void feed(EggThrow x, String text) {
        for (int i = 0; i < text.length(); i++) {
            x.feed(text.charAt(i), 0, 0, 0, 0);
        }
    }

    private static EggThrow told(int sort) {
        EggThrow x = new EggThrow();
        if (sort > 0) {
            feed(x, sort == 1 ? "p;p;e" : "mw9s1f1;pl5r5b9;pl5r5b9;p;p;p;p;e;e;e;e;e;eb99c1");
            x.text(0);
        }
        if (sort > 1) {
            feed(x, "y:d/[b-3]+9999*9999*r;y:1");
            x.text(1);
            x.law(0);
            feed(x, "012321");
            x.text(2);
        }
        return x;
    }

    private static Object value(Class<?> type, Random random) {
        if (type == boolean.class) {
            return random.nextBoolean();
        }
        int number = NUMBERS[random.nextInt(NUMBERS.length)];
        return type == long.class ? (Object) ((long) number * number * number) : number;
    }

    private static String state(EggThrow x) {
        StringBuilder s = new StringBuilder();
        for (int what = 0; what <= 12; what++) {
            s.append(x.count(what)).append(' ');
        }
        return s.append(x.champion()).append(' ').append(x.held()).toString();
    }

    private static boolean isRefused(Object answer) {
        if (answer instanceof Boolean) {
            return !(Boolean) answer;
        }
        long number = ((Number) answer).longValue();
        return number == EggThrow.NONE || number == EggThrow.HIDDEN || number == -2;
    }

    private static void call(Method method, EggThrow x, Random random) {
        Object[] values = new Object[method.getParameterCount()];
        for (int i = 0; i < values.length; i++) {
            values[i] = value(method.getParameterTypes()[i], random);
        }
        String before = state(x);
        try {
            Object answer = method.invoke(x, values);
            if (isRefused(answer) && !before.equals(state(x))) {
                tell(method, values, "refused and changed the state");
            }
        } catch (InvocationTargetException e) {
            boolean isDue = e.getCause() instanceof NoSuchElementException && method.getName().equals("person");
            if (!isDue || !before.equals(state(x))) {
                tell(method, values, "threw " + e.getCause());
            }
        } catch (IllegalAccessException e) {
            tell(method, values, e.toString());
        }
    }

    private static void tell(Method method, Object[] values, String what) {
        wrong++;
        System.out.println(method.getName() + java.util.Arrays.toString(values) + " " + what);
    }

    public static void main(String[] args) {
        Random random = new Random(7);
        for (Method method : EggThrow.class.getDeclaredMethods()) {
            if (!Modifier.isPublic(method.getModifiers())) {
                continue;
            }
            for (int sort = 0; sort < 3; sort++) {
                EggThrow x = told(sort);
                for (int i = 0; i < 400 && wrong < 20; i++) {
                    call(method, x, random);
                }
            }
        }
        if (wrong > 0) {
            System.exit(1);
        }
    }
}
