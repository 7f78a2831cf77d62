import java.lang.reflect.InvocationTargetException;
import java.lang.reflect.Method;
import java.lang.reflect.Modifier;
import java.util.Map;
import java.util.TreeMap;

/**
 * Runs the tests of single sentences: every static method of a class that takes nothing. They
 * are found, not listed, so that none can be left out.
 */
final class Sentences {
    private Sentences() {
    }

    static void run(Class<?> tests, Check check) throws IllegalAccessException {
        Map<String, Method> found = new TreeMap<>();
        for (Method method : tests.getDeclaredMethods()) {
            boolean isTest = Modifier.isStatic(method.getModifiers()) && !method.isSynthetic()
                && method.getParameterCount() == 0 && method.getReturnType() == void.class;
            if (isTest) {
                found.put(method.getName(), method);
            }
        }
        for (Method method : found.values()) {
            runOne(method, check);
        }
        check.begin(tests.getName());
        check.holds("has tests", !found.isEmpty());
        System.out.println(tests.getName() + ": " + found.size() + " sentences");
    }

    private static void runOne(Method method, Check check) throws IllegalAccessException {
        int ahead = check.calls();
        check.begin(method.getName());
        try {
            method.setAccessible(true);
            method.invoke(null);
        } catch (InvocationTargetException thrown) {
            check.holds("ends without " + thrown.getCause(), false);
        }
        check.holds("asks something", check.calls() > ahead);
    }
}
