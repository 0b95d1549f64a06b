import java.lang.reflect.InvocationTargetException;
import java.lang.reflect.Method;
import java.lang.reflect.Modifier;
import java.util.Arrays;
import java.util.Comparator;

/** Runs the cases of a test class: each is named by its promise's number, or by "terms", and by what it tries. */
final class Cases {
    private Cases() {
    }

    static void run(Class<?> tests) throws IllegalAccessException {
        Method[] methods = tests.getDeclaredMethods();
        Arrays.sort(methods, Comparator.comparing(Method::getName));
        for (Method m : methods) {
            if (!isToRun(m)) {
                continue;
            }
            Due.begin(m.getName());
            if (!m.getName().matches("(promise\\d\\d|terms)_\\w+")) {
                Due.fails("is no name of a case");
            }
            run(m);
        }
        Due.end(tests.getSimpleName());
    }

    /** A case is a static method without arguments that is not private; helpers are private. */
    private static boolean isToRun(Method m) {
        return Modifier.isStatic(m.getModifiers()) && !Modifier.isPrivate(m.getModifiers())
            && m.getParameterCount() == 0;
    }

    private static void run(Method m) throws IllegalAccessException {
        try {
            m.invoke(null);
        } catch (InvocationTargetException e) {
            Due.fails("threw " + e.getCause());
        }
    }
}
