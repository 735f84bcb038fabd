import java.lang.reflect.Method;
import java.util.ArrayList;
import java.util.HashMap;
import java.util.List;
import java.util.Map;

/**
 * Calls told as a text, so that the same ones can be made on new objects again and again, of the program and of the
 * model: "'A25055L000' line() lay() stretch(-2) change()*3". What stands in quotes is wiped and written anew.
 */
final class Script {
    /** Nothing is promised of an object behind so many calls. */
    static final int MOST_CALLS = 512;

    private static final Map<Class<?>, Map<String, Method>> METHODS = new HashMap<>();

    private Script() { }

    static TenArrows played(String script) {
        TenArrows program = new TenArrows();
        play(program, script);
        return program;
    }

    /** Makes all calls and tells how many they were. */
    static int play(Object on, String script) {
        List<String> calls = callsOf(script);
        for (String one : calls) {
            call(on, one);
        }
        if (calls.size() > MOST_CALLS) {
            throw new IllegalStateException("more calls than an object is used for: " + script);
        }
        return calls.size();
    }

    static long call(Object on, String call) {
        int open = call.indexOf('(');
        String name = call.substring(0, open);
        String inside = call.substring(open + 1, call.length() - 1);
        String[] told = inside.isEmpty() ? new String[0] : inside.split(",");
        try {
            Method method = methodOf(on.getClass(), name);
            Object[] arguments = new Object[told.length];
            for (int i = 0; i < told.length; i++) {
                arguments[i] = argumentOf(method.getParameterTypes()[i], told[i]);
            }
            return ((Number) method.invoke(on, arguments)).longValue();
        } catch (ReflectiveOperationException e) {
            throw new IllegalStateException(call, e);
        }
    }

    private static Method methodOf(Class<?> of, String name) {
        Method method = METHODS.computeIfAbsent(of, Script::methodsOf).get(name);
        if (method == null) {
            throw new IllegalStateException("no call " + name);
        }
        return method;
    }

    private static Map<String, Method> methodsOf(Class<?> of) {
        Map<String, Method> methods = new HashMap<>();
        for (Method method : of.getDeclaredMethods()) {
            methods.put(method.getName(), method);
        }
        return methods;
    }

    private static Object argumentOf(Class<?> type, String told) {
        if (type == boolean.class) {
            return Boolean.valueOf(told);
        }
        if (type == long.class) {
            return Long.valueOf(told);
        }
        return Integer.valueOf(told);
    }

    private static List<String> callsOf(String script) {
        List<String> calls = new ArrayList<>();
        for (String part : script.split(" +")) {
            if (part.startsWith("'")) {
                calls.add("wipe()");
                for (char letter : part.substring(1, part.length() - 1).toCharArray()) {
                    calls.add("write(" + (int) letter + ")");
                }
            } else if (!part.isEmpty()) {
                int star = part.indexOf('*');
                int times = star < 0 ? 1 : Integer.parseInt(part.substring(star + 1));
                for (int i = 0; i < times; i++) {
                    calls.add(star < 0 ? part : part.substring(0, star));
                }
            }
        }
        return calls;
    }
}
