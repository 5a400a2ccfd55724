import java.lang.reflect.InvocationTargetException;
import java.lang.reflect.Method;
import java.util.HashMap;
import java.util.Map;

/** Calls told as texts, such as "light(0, 85, 10)"; MIN and MAX are the least and the greatest int. */
final class Calls {
    private static final Map<String, Method> FACE = new HashMap<>();
    private static final Map<String, Object[]> KNOWN = new HashMap<>();

    static {
        for (Method method : CoastLights.class.getMethods()) {
            if (method.getDeclaringClass() == CoastLights.class) {
                FACE.put(method.getName(), method);
            }
        }
    }

    private Calls() {
    }

    static int make(CoastLights x, String call) {
        Object[] with = KNOWN.computeIfAbsent(call, Calls::argumentsOf);
        try {
            return (int) methodOf(call).invoke(x, with);
        } catch (InvocationTargetException thrown) {
            throw new IllegalStateException(call + " threw", thrown.getCause());
        } catch (IllegalAccessException barred) {
            throw new IllegalStateException(call, barred);
        }
    }

    private static Method methodOf(String call) {
        Method method = FACE.get(call.substring(0, call.indexOf('(')));
        if (method == null) {
            throw new IllegalStateException("the face has no " + call);
        }
        return method;
    }

    private static Object[] argumentsOf(String call) {
        Class<?>[] types = methodOf(call).getParameterTypes();
        String inside = call.substring(call.indexOf('(') + 1, call.length() - 1).trim();
        String[] words = inside.isEmpty() ? new String[0] : inside.split(", *");
        if (words.length != types.length) {
            throw new IllegalStateException(call + " has not so many arguments");
        }
        Object[] with = new Object[types.length];
        for (int i = 0; i < types.length; i++) {
            with[i] = types[i] == boolean.class ? (Object) Boolean.valueOf(words[i])
                : types[i] == long.class ? (Object) Long.valueOf(words[i]) : (Object) number(words[i]);
        }
        return with;
    }

    private static int number(String word) {
        return word.equals("MIN") ? Due.MIN : word.equals("MAX") ? Due.MAX : Integer.parseInt(word);
    }

    /** The feed of at most 8 signs. */
    static String feed(String signs) {
        long bytes = 0;
        for (int i = 0; i < signs.length(); i++) {
            bytes |= (long) (signs.charAt(i) & 255) << (8 * i);
        }
        return "feed(" + signs.length() + ", " + bytes + ")";
    }
}
