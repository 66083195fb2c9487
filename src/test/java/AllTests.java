import java.lang.reflect.InvocationTargetException;
import java.lang.reflect.Method;
import java.util.TreeMap;

/** Runs every test; its last line tells how many passed and how many failed, its exit code whether one failed. */
public final class AllTests {
    private static final Class<?>[] OF_PROMISES = {
        RowAndTextTests.class, NaveTests.class, DeedTests.class, AsideTests.class, TrialTests.class,
        ChanceTests.class, ToldTests.class,
    };
    private static final Class<?>[] OF_ALL = {AgainstModel.class, FaceTests.class};
    private static final int PROMISES = 44;
    private static final long LONGEST_MILLIS = 60_000;

    public static void main(String[] args) throws InterruptedException {
        TreeMap<String, Method> tests = new TreeMap<>();
        gather(OF_PROMISES, "promise", tests);
        int failed = withoutTest(tests);
        gather(OF_ALL, "all", tests);
        int passed = 0;
        for (Method test : tests.values()) {
            if (passes(test)) {
                passed++;
            } else {
                failed++;
                System.out.println("failed: " + test.getName());
            }
        }
        System.out.println(passed + " passed, " + failed + " failed");
        System.exit(failed == 0 ? 0 : 1);
    }

    private static void gather(Class<?>[] classes, String ahead, TreeMap<String, Method> tests) {
        for (Class<?> c : classes) {
            for (Method m : c.getDeclaredMethods()) {
                if (m.getName().startsWith(ahead)) {
                    tests.put(m.getName(), m);
                }
            }
        }
    }

    private static int withoutTest(TreeMap<String, Method> tests) {
        int missing = 0;
        for (int promise = 1; promise <= PROMISES; promise++) {
            String ahead = String.format("promise%02d", promise);
            String next = tests.ceilingKey(ahead);
            if (next == null || !next.startsWith(ahead)) {
                System.out.println("failed: no test of " + ahead);
                missing++;
            }
        }
        return missing;
    }

    /** In a thread of its own, so that a call that doesn't end fails its test and not the whole run. */
    private static boolean passes(Method test) throws InterruptedException {
        int before = Check.wrongSoFar();
        boolean[] ended = {false};
        Thread thread = new Thread(() -> ended[0] = runs(test));
        thread.setDaemon(true);
        thread.start();
        thread.join(LONGEST_MILLIS);
        if (thread.isAlive()) {
            Check.fail(test.getName() + " doesn't end");
        }
        return ended[0] && Check.wrongSoFar() == before;
    }

    private static boolean runs(Method test) {
        try {
            test.setAccessible(true);
            test.invoke(null);
            return true;
        } catch (InvocationTargetException e) {
            System.out.println("    " + test.getName() + " threw " + e.getCause());
        } catch (IllegalAccessException e) {
            System.out.println("    " + test.getName() + " can't be called: " + e);
        }
        return false;
    }

    private AllTests() {
    }
}
