import java.lang.reflect.InvocationTargetException;
import java.lang.reflect.Method;
import java.lang.reflect.Modifier;
import java.util.ArrayList;
import java.util.Arrays;
import java.util.Comparator;
import java.util.List;

/**
 * Runs the tests of a class one by one: each stands for one sentence of the document that names a boundary case,
 * and is named by the number of the promise (and by words1 to words6, if the sentence stands before promise 1).
 */
final class Edges {
    private Edges() {
    }

    static List<Method> of(Class<?> tests) {
        List<Method> all = new ArrayList<>(Arrays.asList(tests.getDeclaredMethods()));
        all.removeIf(method -> Modifier.isPrivate(method.getModifiers()) || !method.getName().matches("promise\\d\\d(To\\d\\d)?_.*"));
        all.sort(Comparator.comparing(Method::getName));
        return all;
    }

    static void run(Class<?> tests) throws ReflectiveOperationException {
        int failed = 0;
        List<Method> all = of(tests);
        for (Method test : all) {
            Due due = new Due(tests.getName() + "." + test.getName());
            try {
                test.invoke(null, due);
            } catch (InvocationTargetException thrown) {
                due.holds("it threw " + thrown.getCause(), false);
            }
            failed += due.isRight() ? 0 : 1;
        }
        System.out.println(tests.getName() + ": " + all.size() + " tests, " + failed + " failed");
        if (failed > 0 || all.isEmpty()) {
            System.exit(1);
        }
    }
}
