import java.lang.reflect.InvocationTargetException;
import java.lang.reflect.Method;
import java.util.ArrayList;
import java.util.Comparator;
import java.util.List;

/** The boundary cases of the document: each method promiseNN.. of the Edge classes is a test of its own. */
public final class EdgesTest {
    private static final Class<?>[] GROUPS = {EdgeTape.class, EdgeSystemText.class, EdgeLawText.class, EdgeWord.class,
        EdgeSystem.class, EdgeKin.class, EdgeCensus.class, EdgePeople.class, EdgeFound.class, EdgeImage.class};
    private static final int PROMISES = 38;

    public static void main(String[] args) throws IllegalAccessException {
        int[] tests = new int[PROMISES + 1];
        int failed = 0;
        for (Method test : tests()) {
            tests[Integer.parseInt(test.getName().substring(7, 9))]++;
            if (!passes(test)) {
                failed++;
                System.out.println("FAILED: " + test.getDeclaringClass().getName() + "." + test.getName());
            }
        }
        int all = 0;
        for (int promise = 1; promise <= PROMISES; promise++) {
            all += tests[promise];
            if (tests[promise] == 0) {
                failed++;
                System.out.println("promise " + promise + " has no test of a boundary case");
            }
        }
        System.out.println("EdgesTest: " + all + " tests, " + failed + " failed");
        if (failed != 0) {
            System.exit(1);
        }
    }

    private static List<Method> tests() {
        List<Method> all = new ArrayList<>();
        for (Class<?> group : GROUPS) {
            for (Method method : group.getDeclaredMethods()) {
                if (method.getName().matches("promise[0-9]{2}[A-Z].*")) {
                    all.add(method);
                }
            }
        }
        all.sort(Comparator.comparing(Method::getName));
        return all;
    }

    /** One that throws is told like one that answers wrong, and those behind it run all the same. */
    private static boolean passes(Method test) throws IllegalAccessException {
        Due due = new Due(test.getName());
        try {
            test.invoke(null, due);
        } catch (InvocationTargetException thrown) {
            System.out.println(test.getName() + ": " + thrown.getCause());
            return false;
        }
        return due.isGood();
    }
}
