import java.lang.reflect.InvocationTargetException;
import java.lang.reflect.Method;
import java.lang.reflect.Modifier;
import java.util.ArrayList;
import java.util.Comparator;
import java.util.List;

/** No call throws or fails to end, whatever is asked of it: all methods with any numbers, the same ones every time. */
final class WildTest {
    private static final int OBJECTS = 2000;
    private static final int CALLS = 512;
    private static final int[] NUMBERS = {Integer.MIN_VALUE, Integer.MIN_VALUE + 1, -9999, -2, -1, 0, 1, 2, 3, 4, 5, 6, 7, 8,
        9, 10, 11, 12, 13, 14, 20, 21, 39, 40, 41, 99, 100, Integer.MAX_VALUE - 5, Integer.MAX_VALUE};
    private static final String TEXT = "let 0 1 if not(wet<3)or comes>2 and flow=1;let 1 9; let 5 99 if ((1=1));";

    private static long seed = 7;

    public static void main(String[] args) throws IllegalAccessException {
        List<Method> methods = new ArrayList<>();
        for (Method method : WaterThanks.class.getDeclaredMethods()) {
            if (Modifier.isPublic(method.getModifiers())) {
                methods.add(method);
            }
        }
        methods.sort(Comparator.comparing(Method::getName));
        Check.due("all methods of the face", methods.size(), 39);
        for (int i = 0; i < OBJECTS; i++) {
            Check.due("no call of object " + i + " throws", play(new WaterThanks(), methods));
        }
        Check.end();
    }

    private static int up(int bound) {
        seed = seed * 6364136223846793005L + 1442695040888963407L;
        return (int) ((seed >>> 33) % bound);
    }

    private static boolean play(WaterThanks x, List<Method> methods) throws IllegalAccessException {
        // one half of the objects begin with much of all, so that calls reach far into them
        int begun = up(2) == 0 ? 0 : 6;
        for (int v = 0; v < begun; v++) {
            x.village(up(13));
            x.year(up(21));
            x.set(v, 2, up(10));
            x.set(v, 3, up(21));
        }
        for (int i = 4 * begun; i < CALLS; i++) {
            Method method = methods.get(up(methods.size()));
            Object[] with = numbersFor(method);
            try {
                method.invoke(x, with);
            } catch (InvocationTargetException e) {
                System.out.println(method.getName() + java.util.Arrays.toString(with) + ": " + e.getCause());
                return false;
            }
        }
        return true;
    }

    private static Object[] numbersFor(Method method) {
        Class<?>[] types = method.getParameterTypes();
        Object[] with = new Object[types.length];
        for (int k = 0; k < types.length; k++) {
            if (types[k] == long.class) {
                with[k] = up(3) == 0 ? seed : eightOfText();
            } else {
                with[k] = up(3) == 0 ? NUMBERS[up(NUMBERS.length)] : up(7);
            }
        }
        return with;
    }

    private static long eightOfText() {
        int from = up(8) * 8;
        long eight = 0;
        for (int i = 7; i >= 0; i--) {
            eight = eight << 8 | TEXT.charAt(from + i);
        }
        return eight;
    }
}
