import java.lang.reflect.Constructor;
import java.lang.reflect.Field;
import java.lang.reflect.Method;
import java.lang.reflect.Modifier;
import java.util.Set;
import java.util.TreeSet;

/** The face of the document, as the compiled class shows it. */
public final class FaceTest {
    private static final Set<String> METHODS = Set.of(
        "int write(int)", "int wipe()", "int fault()", "int line()", "int about(int)", "int stage(int,int)",
        "int byBook()", "int truly()", "int lay()", "int lose()", "int find(int)", "int doubled()", "int change()",
        "int stretch(int)", "int knot()", "int clear()", "int undo()", "int off(int,int)", "int ends(int,int)",
        "int step(int)", "int share(int,int,boolean)", "int where(int,boolean)", "int back(int)",
        "int shows(int,int)", "int soonest()", "int test(int,int)", "int untest()", "int changes(int)",
        "int rests(int,int)", "int chance(int,int,boolean)", "long seed(long)", "int days(int)", "int keep(int)",
        "int again(int)");
    private static final Set<String> FIELDS = Set.of("UNKNOWN", "BAD", "LATE", "FULL", "NONE");

    private static final Checks checks = new Checks();

    public static void main(String[] args) {
        face();
        nested();
        checks.finish("FaceTest");
    }

    private static void face() {
        Class<?> face = TenArrows.class;
        checks.isTrue("public and final", Modifier.isPublic(face.getModifiers()) && Modifier.isFinal(face.getModifiers()));
        Set<String> visible = new TreeSet<>();
        Set<String> publicNames = new TreeSet<>();
        for (Method method : face.getDeclaredMethods()) {
            if (!Modifier.isPrivate(method.getModifiers())) {
                visible.add(told(method));
                publicNames.add(method.getName());
                checks.isTrue("public: " + method, Modifier.isPublic(method.getModifiers()));
            }
        }
        checks.isTrue("methods: " + visible, visible.equals(METHODS));
        checks.due("methods", 34, visible.size());
        for (Field field : face.getDeclaredFields()) {
            boolean constant = FIELDS.contains(field.getName());
            checks.isTrue("field " + field, Modifier.isPrivate(field.getModifiers()) != constant);
            checks.isTrue("field " + field, Modifier.isFinal(field.getModifiers()) || !Modifier.isStatic(field.getModifiers()));
        }
        Constructor<?>[] constructors = face.getDeclaredConstructors();
        checks.due("constructors", 1, constructors.length);
        checks.isTrue("public constructor", Modifier.isPublic(constructors[0].getModifiers())
            && constructors[0].getParameterCount() == 0);
        privateNames(face, publicNames);
        for (Class<?> inside : face.getDeclaredClasses()) {
            privateNames(inside, publicNames);
        }
        checks.due("UNKNOWN", -1, TenArrows.UNKNOWN);
        checks.due("BAD", -2, TenArrows.BAD);
        checks.due("LATE", -3, TenArrows.LATE);
        checks.due("FULL", -4, TenArrows.FULL);
        checks.due("NONE", -9, TenArrows.NONE);
    }

    private static void privateNames(Class<?> from, Set<String> publicNames) {
        for (Method method : from.getDeclaredMethods()) {
            boolean ofTheFace = Modifier.isPublic(method.getModifiers());
            checks.isTrue("name of a public one: " + method, ofTheFace || !publicNames.contains(method.getName()));
            checks.isTrue("seven parameters: " + method, method.getParameterCount() <= 7);
        }
    }

    private static String told(Method method) {
        StringBuilder told = new StringBuilder(method.getReturnType().getSimpleName());
        told.append(' ').append(method.getName()).append('(');
        String comma = "";
        for (Class<?> parameter : method.getParameterTypes()) {
            told.append(comma).append(parameter.getSimpleName());
            comma = ",";
        }
        return told.append(')').toString();
    }

    private static void nested() {
        Class<?>[] inside = TenArrows.class.getDeclaredClasses();
        checks.isTrue("at most some twelve classes", inside.length <= 11);
        for (Class<?> one : inside) {
            checks.isTrue("static: " + one, Modifier.isStatic(one.getModifiers()));
            checks.isTrue("not public: " + one, !Modifier.isPublic(one.getModifiers())
                && !Modifier.isProtected(one.getModifiers()));
            int fields = 0;
            for (Field field : one.getDeclaredFields()) {
                if (Modifier.isStatic(field.getModifiers())) {
                    checks.isTrue("final: " + field, Modifier.isFinal(field.getModifiers()));
                } else {
                    fields++;
                }
            }
            checks.isTrue("some twenty fields: " + one, fields <= 20);
        }
    }
}
