import java.lang.reflect.InvocationTargetException;
import java.lang.reflect.Method;
import java.util.ArrayList;
import java.util.Comparator;
import java.util.List;

/** Runs the tests of a class that have a sentence each, and tells which sentences are broken. */
final class Sentences {
    private Sentences() {
    }

    static List<Method> in(Class<?> tests) {
        List<Method> found = new ArrayList<>();
        for (Method method : tests.getDeclaredMethods()) {
            if (method.isAnnotationPresent(Sentence.class)) {
                found.add(method);
            }
        }
        found.sort(Comparator.comparing(Method::getName));
        return found;
    }

    static void test(Class<?> tests) throws IllegalAccessException {
        for (Method method : in(tests)) {
            Sentence sentence = method.getAnnotation(Sentence.class);
            if (!holds(method)) {
                System.out.println("BROKEN by " + method.getName() + ": " + sentence.of() + ": \"" + sentence.says() + "\"");
            }
        }
        Check.end(tests.getSimpleName());
    }

    private static boolean holds(Method method) throws IllegalAccessException {
        int wrong = Check.wrong();
        int checks = Check.checks();
        try {
            method.setAccessible(true);
            method.invoke(null);
        } catch (InvocationTargetException thrown) {
            Check.holds(method.getName() + " comes to its end, but: " + thrown.getCause(), false);
        }
        Check.holds(method.getName() + " checks something", Check.checks() > checks);
        return Check.wrong() == wrong;
    }
}
