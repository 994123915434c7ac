import java.lang.reflect.InvocationTargetException;
import java.lang.reflect.Method;
import java.lang.reflect.Modifier;
import java.util.Arrays;
import java.util.Comparator;

/**
 * Runs every case of a test class: each static void method without parameters, but main. So a case that is written
 * is a case that runs; helpers take a parameter or answer something.
 */
final class Cases {
    private Cases() {
    }

    static void runAll(Class<?> tests) {
        Method[] methods = tests.getDeclaredMethods();
        Arrays.sort(methods, Comparator.comparing(Method::getName));
        int ran = 0;
        for (Method method : methods) {
            if (isCase(method)) {
                runOne(method);
                ran++;
            }
        }
        Due.begin(tests.getSimpleName());
        Due.same("it has cases", ran > 0, true);
        System.out.print(ran + " cases, ");
        Due.end();
    }

    private static boolean isCase(Method method) {
        return Modifier.isStatic(method.getModifiers()) && !method.isSynthetic()
                && method.getParameterCount() == 0 && method.getReturnType() == void.class;
    }

    private static void runOne(Method method) {
        Due.begin(method.getName());
        int before = Due.lookedSoFar();
        try {
            method.setAccessible(true);
            method.invoke(null);
        } catch (InvocationTargetException e) {
            Due.same("the case", "threw " + e.getCause(), "came to its end");
        } catch (IllegalAccessException e) {
            Due.same("the case", "could not be called", "was called");
        }
        Due.same("the case looks at something", Due.lookedSoFar() > before, true);
    }
}
