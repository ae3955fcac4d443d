import java.lang.reflect.InvocationTargetException;
import java.lang.reflect.Method;
import java.lang.reflect.Modifier;
import java.util.Arrays;
import java.util.Comparator;
import java.util.List;

/**
 * Calls of all sorts with all sorts of numbers, also behind the 512th call of an object: a call answers, or throws just
 * what the face names for it, and never what the machine would throw for it.
 */
public final class WildTest {
    private static final int WALLS = 40;
    private static final int CALLS = 4000;
    private static final int[] FAR = {-1, 6, 7, 8, 41, 42, 43, 60, 1 << 30, Integer.MIN_VALUE, Integer.MAX_VALUE};
    private static final String SIGNS = "kltgsn0123456789;;::**x";

    private final Check check = new Check();
    private final List<Method> methods = Arrays.stream(GluedWall.class.getDeclaredMethods())
            .filter(method -> Modifier.isPublic(method.getModifiers()))
            .sorted(Comparator.comparing(Method::getName)).toList();
    private long dice = 20261120;

    public static void main(String[] args) throws IllegalAccessException {
        WildTest test = new WildTest();
        for (int wall = 0; wall < WALLS; wall++) {
            test.calls(wall);
        }
        test.check.end();
    }

    private void calls(int number) throws IllegalAccessException {
        GluedWall wall = new GluedWall();
        for (int call = 0; call < CALLS; call++) {
            Method method = methods.get(roll(methods.size()));
            Object[] given = new Object[method.getParameterCount()];
            for (int at = 0; at < given.length; at++) {
                given[at] = argument(method.getParameterTypes()[at]);
            }
            String thrown = thrownBy(wall, method, given);
            check.same("wall " + number + " call " + call + ": " + method.getName() + Arrays.toString(given), null, thrown);
        }
    }

    /** The machine throws classes below those of the face, but for a division, which is known by its words. */
    private static String thrownBy(GluedWall wall, Method method, Object[] given) throws IllegalAccessException {
        try {
            method.invoke(wall, given);
            return null;
        } catch (InvocationTargetException e) {
            Throwable thrown = e.getCause();
            boolean isNamed = Arrays.asList(method.getExceptionTypes()).contains(thrown.getClass());
            return isNamed && !"/ by zero".equals(thrown.getMessage()) ? null : thrown.toString();
        }
    }

    private Object argument(Class<?> type) {
        if (type == boolean.class) {
            return roll(2) == 0;
        }
        if (type == char.class) {
            return roll(50) == 0 ? (char) roll(65536) : SIGNS.charAt(roll(SIGNS.length()));
        }
        int sort = roll(20);
        return sort == 0 ? FAR[roll(FAR.length)] : sort < 4 ? roll(42) : sort < 8 ? roll(8) : sort < 18 ? roll(3) : 16 + roll(4);
    }

    private int roll(int sides) {
        dice = dice * 6364136223846793005L + 1442695040888963407L;
        return (int) ((dice >>> 33) % sides);
    }
}
