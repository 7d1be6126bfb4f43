import java.lang.reflect.Constructor;
import java.lang.reflect.Field;
import java.lang.reflect.Method;
import java.lang.reflect.Modifier;
import java.util.HashSet;
import java.util.Set;
import java.util.TreeSet;

/** The public face, and rule 1 of LANGUAGE.md: nothing else can be seen from outside. */
final class FaceTest {
    private static final String NSE = "java.util.NoSuchElementException";
    private static final String IAE = "java.lang.IllegalArgumentException";
    private static final String ISE = "java.lang.IllegalStateException";
    private static final String UOE = "java.lang.UnsupportedOperationException";

    public static void main(String[] args) {
        Set<String> want = new TreeSet<>(Set.of(
            face("int", "order", 3, IAE, UOE),
            face("int", "line", 3, NSE, IAE, ISE, UOE),
            face("void", "carrier", 2, NSE, IAE, ISE),
            face("int", "hour", 3, IAE, UOE),
            face("void", "stock", 2, IAE),
            face("int", "plan", 0, UOE),
            face("int", "wave", 1, NSE),
            face("int", "told", 2, NSE, IAE),
            face("int", "member", 2, NSE)));
        want.addAll(Set.of(
            face("int", "replenish", 2, NSE, IAE),
            face("int", "lacks", 2, NSE, IAE),
            face("int", "release", 1, NSE, ISE),
            face("int", "done", 1, NSE, ISE),
            face("boolean", "change", 2, NSE, IAE, ISE),
            face("int", "join", 2, NSE, ISE),
            face("int", "cutoff", 2, IAE),
            face("int", "late", 1, IAE),
            face("int", "count", 1)));
        Set<String> got = new TreeSet<>();
        Set<String> publicNames = new HashSet<>();
        for (Method m : WavePlans.class.getDeclaredMethods()) {
            if (!Modifier.isPrivate(m.getModifiers())) {
                Check.due("public and not static: " + m, m.getModifiers(), Modifier.PUBLIC);
                got.add(told(m));
                publicNames.add(m.getName());
            }
        }
        Check.due("methods " + got + " against " + want, got.equals(want), true);
        checkHiddenNames(publicNames);
        checkRest();
        Check.end();
    }

    private static void checkHiddenNames(Set<String> publicNames) {
        for (Method m : WavePlans.class.getDeclaredMethods()) {
            if (Modifier.isPrivate(m.getModifiers())) {
                Check.due("a private method named as a public one: " + m, publicNames.contains(m.getName()), false);
            }
        }
    }

    private static void checkRest() {
        Check.due("modifiers of the class", WavePlans.class.getModifiers(), Modifier.PUBLIC | Modifier.FINAL);
        Constructor<?>[] made = WavePlans.class.getDeclaredConstructors();
        Check.due("constructors", made.length, 1);
        Check.due("modifiers of the constructor", made[0].getModifiers(), Modifier.PUBLIC);
        Check.due("parameter of the constructor", made[0].toString().equals("public WavePlans(int)"), true);
        for (Field f : WavePlans.class.getDeclaredFields()) {
            Check.due("a field that is private: " + f, Modifier.isPrivate(f.getModifiers()), true);
        }
        for (Class<?> c : WavePlans.class.getDeclaredClasses()) {
            Check.due("a class inside that is static: " + c, Modifier.isStatic(c.getModifiers()), true);
            Check.due("a class inside that is not public: " + c, Modifier.isPublic(c.getModifiers()), false);
        }
    }

    private static String face(String answer, String name, int parameters, String... refusals) {
        return answer + " " + name + " " + "int,".repeat(parameters) + " " + new TreeSet<>(Set.of(refusals));
    }

    private static String told(Method m) {
        StringBuilder parameters = new StringBuilder();
        for (Class<?> p : m.getParameterTypes()) {
            parameters.append(p.getName()).append(',');
        }
        Set<String> refusals = new TreeSet<>();
        for (Class<?> e : m.getExceptionTypes()) {
            refusals.add(e.getName());
        }
        return m.getReturnType().getName() + " " + m.getName() + " " + parameters + " " + refusals;
    }
}
