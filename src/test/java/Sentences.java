import java.lang.reflect.InvocationTargetException;
import java.lang.reflect.Method;
import java.util.ArrayList;
import java.util.Comparator;
import java.util.List;

/** Runs every test of a sentence in a class; one that asks nothing is wrong, too. */
final class Sentences {
    static final List<Class<?>> ALL = List.of(TermsBoundaryTest.class, TextBoundaryTest.class, ChangeBoundaryTest.class,
        FigureBoundaryTest.class);

    private Sentences() {
    }

    static List<Method> of(Class<?> tests) {
        List<Method> found = new ArrayList<>();
        for (Method m : tests.getDeclaredMethods()) {
            if (m.isAnnotationPresent(Says.class)) {
                found.add(m);
            }
        }
        found.sort(Comparator.comparingInt((Method m) -> m.getAnnotation(Says.class).promise()).thenComparing(Method::getName));
        return found;
    }

    static void runAll(Class<?> tests, Checker checker) {
        for (Method m : of(tests)) {
            int before = checker.askedSoFar();
            checker.begin(m.getName() + " (\"" + m.getAnnotation(Says.class).value() + "\")");
            try {
                m.setAccessible(true);
                m.invoke(null);
            } catch (InvocationTargetException e) {
                e.getCause().printStackTrace(System.out);
                checker.holds("threw " + e.getCause(), false);
            } catch (IllegalAccessException e) {
                checker.holds("cannot be run", false);
            }
            checker.holds("asks something", checker.askedSoFar() > before);
        }
        checker.end();
    }
}
