import java.lang.reflect.InvocationTargetException;
import java.lang.reflect.Method;
import java.util.Arrays;
import java.util.Comparator;

/** Runs the tests of a class, one for each sentence that names an edge: methods named term.. or promise.. and the sentence. */
final class Edges {
    private Edges() {
    }

    static void run(Class<?> tests) {
        Method[] methods = tests.getDeclaredMethods();
        Arrays.sort(methods, Comparator.comparing(Method::getName));
        int edges = 0;
        for (Method method : methods) {
            if (method.getName().startsWith("term") || method.getName().startsWith("promise")) {
                run(method);
                edges++;
            }
        }
        Due.edge("");
        System.out.print(edges + " edges; ");
        Due.finish(tests.getName());
    }

    private static void run(Method method) {
        Due.edge(method.getName());
        try {
            method.invoke(null);
        } catch (InvocationTargetException e) {
            Due.broken("threw " + e.getCause());
        } catch (IllegalAccessException e) {
            Due.broken("can't be run: " + e);
        }
    }
}
