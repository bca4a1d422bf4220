import java.lang.reflect.InvocationTargetException;
import java.lang.reflect.Method;
import java.util.ArrayList;
import java.util.Comparator;
import java.util.List;

/** Runs the edge tests of a class, each one by itself, and tells the names and the sentences of those that fail. */
final class Edges {
    private Edges() {
    }

    static void run(Class<?> tests) {
        for (Method test : testsOf(tests)) {
            int lookedBefore = Check.looked();
            int wrongBefore = Check.wrong();
            call(test);
            if (Check.looked() == lookedBefore) {
                Check.tell(test.getName() + " looked at no answer");
            }
            boolean holds = Check.wrong() == wrongBefore;
            String sentence = test.getAnnotation(Edge.class).value();
            System.out.println(holds ? "  ok     " + test.getName()
                : "  FAILED " + test.getName() + ", the document says: " + sentence);
        }
        Check.end(tests.getSimpleName());
    }

    /** In an order that is the same each time, since reflection promises none. */
    static List<Method> testsOf(Class<?> tests) {
        List<Method> found = new ArrayList<>();
        for (Method method : tests.getDeclaredMethods()) {
            if (method.isAnnotationPresent(Edge.class)) {
                found.add(method);
            }
        }
        found.sort(Comparator.comparing(Method::getName));
        return found;
    }

    /** What stands ahead of the first _ of a test's name: the section of the document. */
    static String sectionOf(Method test) {
        int end = test.getName().indexOf('_');
        return end < 0 ? "" : test.getName().substring(0, end);
    }

    private static void call(Method test) {
        try {
            test.invoke(null);
        } catch (InvocationTargetException e) {
            Check.tell(test.getName() + " ended with " + e.getCause());
        } catch (IllegalAccessException e) {
            Check.tell(test.getName() + " cannot be called");
        }
    }
}
