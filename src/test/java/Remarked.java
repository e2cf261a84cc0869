import java.lang.reflect.InvocationTargetException;
import java.lang.reflect.Method;
import java.util.ArrayList;
import java.util.Arrays;
import java.util.Comparator;
import java.util.List;

/** Runs the tests of a class that bear a remark, each on objects of its own. */
final class Remarked {
    private Remarked() {
    }

    static List<Method> of(Class<?> tests) {
        List<Method> found = new ArrayList<>();
        for (Method method : tests.getDeclaredMethods()) {
            if (method.isAnnotationPresent(Remark.class)) {
                method.setAccessible(true);
                found.add(method);
            }
        }
        found.sort(Comparator.comparing(Method::getName));
        return found;
    }

    /** Runs all, or those alone whose names begin as the first argument tells; there must be one. */
    static void runAll(Class<?> tests, String[] args) {
        String begin = args.length > 0 ? args[0] : "";
        int ran = 0;
        for (Method test : of(tests)) {
            if (test.getName().startsWith(begin)) {
                run(test);
                ran++;
            }
        }
        Due.same("a test whose name begins with '" + begin + "'", ran > 0, true);
        Due.end();
    }

    static void run(Method test) {
        Remark remark = test.getAnnotation(Remark.class);
        Due.about(test.getName() + " " + Arrays.toString(remark.says()));
        int asked = Due.asked();
        try {
            test.invoke(null);
        } catch (InvocationTargetException e) {
            StackTraceElement[] at = e.getCause().getStackTrace();
            Due.same("the test, which threw " + e.getCause() + (at.length > 0 ? " at " + at[0] : ""), 1, 0);
        } catch (IllegalAccessException e) {
            Due.same("the test, which could not be called", 1, 0);
        }
        Due.same("the test asks something", Due.asked() > asked, true);
    }
}
