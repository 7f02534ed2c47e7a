import java.lang.reflect.InvocationTargetException;
import java.lang.reflect.Method;
import java.util.ArrayList;
import java.util.Comparator;
import java.util.List;

/** Runs the tests of a class one by one, each under the name of the sentence that it holds. */
final class Sentences {
    private Sentences() {
    }

    static void holdAll(Class<?> tests) {
        for (Method test : of(tests)) {
            hold(tests, test);
        }
        Due.finish();
    }

    /** The tests of a class, always in the same order. */
    static List<Method> of(Class<?> tests) {
        List<Method> found = new ArrayList<>();
        for (Method method : tests.getDeclaredMethods()) {
            if (method.isAnnotationPresent(Holds.class)) {
                found.add(method);
            }
        }
        found.sort(Comparator.comparing(Method::getName));
        return found;
    }

    private static void hold(Class<?> tests, Method test) {
        String name = tests.getAnnotation(Heading.class).value() + " | " + test.getAnnotation(Holds.class).value()
            + " | " + test.getName();
        Due.begin(name);
        int lookedBefore = Due.looked();
        int wrongBefore = Due.wrong();
        try {
            test.setAccessible(true);
            test.invoke(null);
        } catch (InvocationTargetException e) {
            Due.tell("it threw " + e.getCause());
        } catch (IllegalAccessException | RuntimeException e) {
            Due.tell("it is no test: " + e);
        }
        if (Due.looked() == lookedBefore) {
            Due.tell("it looked at nothing");
        }
        System.out.println((Due.wrong() == wrongBefore ? "  holds   " : "  BROKEN  ") + name);
    }
}
