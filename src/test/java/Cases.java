import java.lang.reflect.InvocationTargetException;
import java.lang.reflect.Method;
import java.util.Arrays;
import java.util.Comparator;
import java.util.List;

/** Runs each boundary case of a test by itself: one that fails does not hide the others. */
final class Cases {
    private Cases() {
    }

    static void run(Class<?> test) {
        List<Method> cases = Arrays.stream(test.getDeclaredMethods())
                .filter(m -> m.isAnnotationPresent(Boundary.class))
                .sorted(Comparator.comparing(Method::getName))
                .toList();
        int failed = 0;
        for (Method m : cases) {
            if (!holds(m)) {
                failed++;
                System.out.println("  in " + m.getName() + ": \"" + m.getAnnotation(Boundary.class).value() + "\"");
            }
        }
        System.out.println(test.getSimpleName() + ": " + cases.size() + " cases, " + failed + " failed");
        if (failed != 0 || cases.isEmpty()) {
            System.exit(1);
        }
    }

    /** A case without a check proves nothing, and so does not hold. */
    private static boolean holds(Method m) {
        Checks checks = new Checks();
        try {
            m.setAccessible(true);
            m.invoke(null, checks);
        } catch (InvocationTargetException e) {
            checks.due("the case ends", e.getCause(), "without an exception");
        } catch (ReflectiveOperationException e) {
            checks.due("the case can be called", e, "with one Checks");
        }
        return checks.allRight();
    }
}
