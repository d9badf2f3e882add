import java.lang.reflect.InvocationTargetException;
import java.lang.reflect.Method;
import java.util.ArrayList;
import java.util.HashMap;
import java.util.List;
import java.util.Map;

/**
 * Calls told as text, parted by ";" or new lines: "sell 0 1 400 -> 600" is a call and the answer that is due, a call
 * without "->" is one that must not be refused. MIN and MAX are the least and the greatest int. An exception is told
 * by the first words of its name: Index, Argument, State, Unsupported, NoElement, Arithmetic.
 */
final class Script {
    private static final Map<String, String> EXCEPTIONS = Map.of(
        "IndexOutOfBoundsException", "Index", "IllegalArgumentException", "Argument",
        "IllegalStateException", "State", "UnsupportedOperationException", "Unsupported",
        "NoSuchElementException", "NoElement", "ArithmeticException", "Arithmetic");
    private static final Map<Class<?>, Map<String, Method>> METHODS = new HashMap<>();

    private Script() {
    }

    /** The calls of a text, each with what is due behind "->". */
    static List<String> calls(String text) {
        List<String> calls = new ArrayList<>();
        for (String call : text.split("[;\n]")) {
            if (!call.isBlank()) {
                calls.add(call.trim());
            }
        }
        return calls;
    }

    static boolean isRefusal(String answer) {
        return EXCEPTIONS.containsValue(answer);
    }

    /** What an object answers to a call, as text. */
    static String answer(Object object, String told) {
        String[] words = told.split("->")[0].trim().split(" +");
        Method method = methodsOf(object.getClass()).get(words[0] + (words.length - 1));
        if (method == null) {
            throw new IllegalStateException("there is no call " + told);
        }
        Object[] given = new Object[words.length - 1];
        for (int i = 0; i < given.length; i++) {
            given[i] = argument(method.getParameterTypes()[i], words[i + 1]);
        }
        try {
            return String.valueOf(method.invoke(object, given));
        } catch (InvocationTargetException thrown) {
            String name = thrown.getCause().getClass().getSimpleName();
            return Due.isThrownByHand(thrown.getCause()) ? EXCEPTIONS.getOrDefault(name, name) : "the machine's " + name;
        } catch (IllegalAccessException e) {
            throw new IllegalStateException(e);
        }
    }

    private static Map<String, Method> methodsOf(Class<?> type) {
        Map<String, Method> methods = METHODS.get(type);
        if (methods == null) {
            methods = new HashMap<>();
            for (Method method : type.getDeclaredMethods()) {
                methods.put(method.getName() + method.getParameterCount(), method);
            }
            METHODS.put(type, methods);
        }
        return methods;
    }

    private static Object argument(Class<?> type, String word) {
        if (type == boolean.class) {
            return Boolean.valueOf(word);
        }
        if (type == char.class) {
            return word.charAt(0);
        }
        return word.equals("MIN") ? Integer.MIN_VALUE : word.equals("MAX") ? Integer.MAX_VALUE : Integer.valueOf(word);
    }

    /** Asks a new object, and the Model too, so that an answer that is due by hand is due by both tellings. */
    static void run(String sentence, String text) {
        Goalmouth real = new Goalmouth();
        Model model = new Model();
        for (String told : calls(text)) {
            String[] parts = told.split("->");
            String got = answer(real, told);
            String byModel = answer(model, told);
            String due = parts.length > 1 ? parts[1].trim() : isRefusal(got) ? "no refusal" : got;
            Due.is(sentence + ": " + parts[0].trim(), due, () -> got);
            Due.is("Model, " + sentence + ": " + parts[0].trim(), due, () -> byModel);
        }
    }

    // ---- texts that many runs begin with ----

    /** Clubs 0 to n-1 of the division 0 on grounds of their own with grade 0, the player i of the club i. */
    static String league(int clubs) {
        StringBuilder text = new StringBuilder();
        for (int i = 0; i < clubs; i++) {
            text.append("addClub 0 ").append(i).append(" 0;");
        }
        for (int i = 0; i < clubs; i++) {
            text.append("addPlayer ").append(i).append(';');
        }
        return text.toString();
    }

    /** 8 clubs, 0 to 3 of the division 0, each on the ground of its number; the players 3c to 3c+2 are of the club c. */
    static String whole() {
        StringBuilder text = new StringBuilder();
        for (int i = 0; i < 8; i++) {
            text.append("addClub ").append(i / 4).append(' ').append(i).append(" 0;");
        }
        for (int i = 0; i < 24; i++) {
            text.append("addPlayer ").append(i / 3).append(';');
        }
        return text.toString();
    }

    /** Kicks off with one player for each side; the match is on then. */
    static String kickOff(int fixture, int home, int away) {
        return "name " + fixture + " true " + home + ";name " + fixture + " false " + away + ";kickOff " + fixture + ";";
    }

    static String match(int fixture, int home, int away, int score) {
        return kickOff(fixture, home, away) + ("goal " + home + ";").repeat(score / 10)
            + ("goal " + away + ";").repeat(score % 10) + "end;";
    }
}
