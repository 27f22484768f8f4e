import java.lang.reflect.InvocationTargetException;
import java.lang.reflect.Method;
import java.util.Arrays;
import java.util.HashMap;
import java.util.List;
import java.util.Map;

/** One Signround that is called by texts such as "sign(1, 0, 2)", and never more often than the document allows. */
final class Desk {
    static final int MOST_CALLS = 512;
    static final String THROWS = "throws.";

    private static final Map<String, Method> METHODS = methods();
    private static final List<Class<?>> DOCUMENTED = List.of(Check.INDEX, Check.ARGUMENT, Check.STATE);

    private final Signround signround = new Signround();
    private int calls = 0;

    private static Map<String, Method> methods() {
        Map<String, Method> found = new HashMap<>();
        for (Method m : Signround.class.getDeclaredMethods()) {
            found.put(m.getName(), m);
        }
        return found;
    }

    static Desk behind(List<String> story) {
        Desk desk = new Desk();
        for (String call : story) {
            desk.answer(call);
        }
        return desk;
    }

    /** The number as a text, "nothing" of a void call, or throws. and the name of what was thrown. */
    String answer(String call) {
        calls++;
        if (calls > MOST_CALLS) {
            throw new IllegalStateException("a test calls an object more than 512 times: " + call);
        }
        int open = call.indexOf('(');
        Method method = METHODS.get(call.substring(0, open));
        try {
            Object got = method.invoke(signround, arguments(call.substring(open + 1, call.indexOf(')'))));
            return got == null ? "nothing" : got.toString();
        } catch (InvocationTargetException e) {
            return THROWS + nameOf(e.getCause().getClass());
        } catch (IllegalAccessException e) {
            throw new IllegalStateException(e);
        }
    }

    int number(String call) {
        return Integer.parseInt(answer(call));
    }

    /** Only the very classes of the document go by their short names: not the machine's own ones below them. */
    private static String nameOf(Class<?> thrown) {
        return DOCUMENTED.contains(thrown) ? thrown.getSimpleName() : thrown.getName();
    }

    private static Object[] arguments(String list) {
        return list.isBlank() ? new Object[0] : Arrays.stream(list.split(",")).map(a -> numberOf(a.trim())).toArray();
    }

    static Integer numberOf(String text) {
        return text.startsWith("0b") ? Integer.parseInt(text.substring(2), 2) : Integer.parseInt(text);
    }
}
