import java.lang.reflect.InvocationTargetException;
import java.lang.reflect.Method;
import java.util.ArrayList;
import java.util.Comparator;
import java.util.List;

/** Runs the boundary cases of a class: its methods whose names begin with "promise" and the number of the promise. */
final class Cases {
    private Cases() {
    }

    static List<Method> of(Class<?> tests) {
        List<Method> cases = new ArrayList<>();
        for (Method method : tests.getDeclaredMethods()) {
            if (method.getName().startsWith("promise")) {
                cases.add(method);
            }
        }
        cases.sort(Comparator.comparing(Method::getName));
        return cases;
    }

    static void run(Class<?> tests) {
        List<Method> cases = of(tests);
        for (Method method : cases) {
            Check.enter(method.getName());
            try {
                method.invoke(null);
            } catch (InvocationTargetException e) {
                Check.equal("the case", "throws." + e.getCause(), "an end without an exception");
            } catch (IllegalAccessException e) {
                Check.equal("the case", e.toString(), "one that can be called");
            }
        }
        Check.enter(tests.getSimpleName());
        Check.equal("has cases", cases.size() > 0, true);
        Check.finish();
    }
}
