import java.lang.reflect.InvocationTargetException;
import java.lang.reflect.Method;
import java.util.Arrays;
import java.util.Comparator;

/**
 * Any arguments in any state, and far more calls than an object is promised for: whatever is thrown is an exception
 * that the document lists for the method, and thrown by the program itself.
 */
public final class WildTest {
    private static final int OBJECTS = 200;
    private static final int CALLS = 3000;
    private static final int[] ODD = {Integer.MIN_VALUE, -1, 24, 25, 31, 32, 100, 512, 10000, Integer.MAX_VALUE};
    private static long seed = 4711;

    public static void main(String[] args) throws IllegalAccessException {
        Method[] methods = Goalmouth.class.getDeclaredMethods();
        methods = Arrays.stream(methods).filter(m -> java.lang.reflect.Modifier.isPublic(m.getModifiers()))
            .sorted(Comparator.comparing(Method::getName)).toArray(Method[]::new);
        for (int object = 0; object < OBJECTS; object++) {
            Goalmouth x = new Goalmouth();
            for (int i = 0; i < 30; i++) {
                call(x, "addClub", methods);
                call(x, "addPlayer", methods);
            }
            for (int i = 0; i < CALLS; i++) {
                if (draw(3) == 0) {
                    String[] often = {"plan", "name", "kickOff", "card", "change", "goOn", "end", "appeal"};
                    call(x, often[draw(often.length)], methods);
                } else {
                    call(x, methods[draw(methods.length)]);
                }
            }
        }
        System.out.println(OBJECTS * CALLS + " wild calls");
    }

    private static int draw(int bound) {
        seed = seed * 6364136223846793005L + 1442695040888963407L;
        return (int) ((seed >>> 33) % bound);
    }

    private static void call(Goalmouth x, String name, Method[] methods) throws IllegalAccessException {
        for (Method method : methods) {
            if (method.getName().equals(name)) {
                call(x, method);
            }
        }
    }

    private static Object argument(Class<?> type) {
        if (type == boolean.class) {
            return draw(2) == 0;
        }
        if (type == char.class) {
            return draw(4) == 0 ? (char) draw(65536) : "had".charAt(draw(3));
        }
        return draw(10) == 0 ? ODD[draw(ODD.length)] : draw(draw(2) == 0 ? 4 : 24);
    }

    private static void call(Goalmouth x, Method method) throws IllegalAccessException {
        Object[] given = new Object[method.getParameterCount()];
        for (int i = 0; i < given.length; i++) {
            given[i] = argument(method.getParameterTypes()[i]);
        }
        try {
            method.invoke(x, given);
        } catch (InvocationTargetException thrown) {
            Throwable cause = thrown.getCause();
            boolean isListed = Arrays.asList(method.getExceptionTypes()).contains(cause.getClass());
            boolean isOurs = cause.getStackTrace()[0].getClassName().startsWith("Goalmouth");
            if (!isListed || !isOurs) {
                System.out.println(method.getName() + Arrays.toString(given) + " throws " + cause);
                cause.printStackTrace(System.out);
                System.exit(1);
            }
        }
    }
}
