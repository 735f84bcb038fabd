import java.lang.reflect.InvocationTargetException;
import java.lang.reflect.Method;
import java.util.ArrayList;
import java.util.Comparator;
import java.util.List;

/** What tests of boundary cases share: each is a method of its own that tells by Holds which sentence it holds. */
abstract class Edges {
    static final int UNKNOWN = -1, BAD = -2, LATE = -3, FULL = -4, NONE = -9;
    static final int[] FAR = {Integer.MIN_VALUE, Integer.MIN_VALUE + 1, -1000, 1000, Integer.MAX_VALUE};

    private static final Checks checks = new Checks();
    private static String test = "";

    static void due(String call, long want, long got) {
        checks.due(test + call, want, got);
    }

    static void isTrue(String what, boolean holds) {
        checks.isTrue(test + what, holds);
    }

    /** Plays a script, then makes one call more, whose answer is looked at. */
    static void dueBehind(String script, String call, long want) {
        due(script + " .. " + call, want, Script.call(Script.played(script), call));
    }

    /** A new object on which calls are made one by one, each with the answer that is due: "lay()=20000 lose()=0". */
    static TenArrows dueEach(String script, String callsAndAnswers) {
        TenArrows x = Script.played(script);
        for (String one : callsAndAnswers.split(" +")) {
            int equals = one.indexOf('=');
            String call = one.substring(0, equals);
            due(call, Long.parseLong(one.substring(equals + 1)), Script.call(x, call));
        }
        return x;
    }

    /** about() from what on, one answer behind the other. */
    static void dueAbout(TenArrows x, int from, int... want) {
        for (int i = 0; i < want.length; i++) {
            due("about(" + (from + i) + ")", want[i], x.about(from + i));
        }
    }

    static void dueFraction(TenArrows x, String call, int top, int bottom) {
        due(call + " above", top, Script.call(x, call + ",true)"));
        due(call + " below", bottom, Script.call(x, call + ",false)"));
    }

    /** A head of a LINE with so many like STAGES. */
    static String lined(String head, String stage, int stages) {
        return "'" + head + stage.repeat(stages) + "' line() ";
    }

    static List<Method> testsOf(Class<?> of) {
        List<Method> tests = new ArrayList<>();
        for (Method method : of.getDeclaredMethods()) {
            if (method.isAnnotationPresent(Holds.class)) {
                tests.add(method);
            }
        }
        tests.sort(Comparator.<Method>comparingInt(method -> method.getAnnotation(Holds.class).promise())
            .thenComparing(Method::getName));
        return tests;
    }

    static void runAll(Class<?> of) {
        List<Method> tests = testsOf(of);
        for (Method one : tests) {
            Holds holds = one.getAnnotation(Holds.class);
            test = "promise " + holds.promise() + ", '" + holds.says() + "', " + one.getName() + ": ";
            run(one);
        }
        test = "";
        System.out.println(tests.size() + " boundary cases");
        finish(of.getSimpleName());
    }

    static void finish(String name) {
        checks.finish(name);
    }

    private static void run(Method one) {
        try {
            one.setAccessible(true);
            one.invoke(null);
        } catch (InvocationTargetException e) {
            isTrue("threw " + e.getCause(), false);
        } catch (ReflectiveOperationException e) {
            isTrue("could not be run: " + e, false);
        }
    }
}
