import java.lang.reflect.InvocationTargetException;
import java.lang.reflect.Method;
import java.util.Arrays;
import java.util.Comparator;

/** Runs each method of a test that is named by a promise: promise04_aThirteenthTree.. */
final class Promises {
    private Promises() {
    }

    /** Each promise from the first to the last must have one at least. */
    static void run(Class<?> test, Due due, int first, int last) {
        Method[] methods = test.getDeclaredMethods();
        Arrays.sort(methods, Comparator.comparing(Method::getName));
        int[] tests = new int[100];
        for (Method method : methods) {
            if (method.getName().startsWith("promise")) {
                tests[runOne(method, due, first, last)]++;
            }
        }
        due.begin("all");
        for (int promise = first; promise <= last; promise++) {
            due.holds("promise " + promise + " has a test", tests[promise] > 0);
        }
        due.end();
    }

    private static int runOne(Method method, Due due, int first, int last) {
        due.begin(method.getName());
        int promise = Integer.parseInt(method.getName().substring(7, 9));
        due.holds("it is named by a promise of this test", promise >= first && promise <= last);
        int looked = due.looked();
        try {
            method.invoke(null);
        } catch (InvocationTargetException e) {
            due.holds("it throws " + e.getCause(), false);
        } catch (IllegalAccessException e) {
            due.holds("it cannot be run: " + e, false);
        }
        due.holds("it looks at something", due.looked() > looked);
        return promise;
    }
}
