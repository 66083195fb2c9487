import java.lang.reflect.InvocationTargetException;
import java.lang.reflect.Method;
import java.util.ArrayList;
import java.util.Comparator;
import java.util.List;

/** Runs every test; its last line tells how many passed and how many failed, its exit code whether one failed. */
public final class AllTests {
    /** Their tests name a sentence of the document each. */
    private static final Class<?>[] OF_SENTENCES = {
        CallTests.class, AnswerTerms.class, TextTerms.class, PoleTerms.class, RowTests.class, TextTests.class, PoleTests.class,
        DeedTests.class, UndoTests.class, HoldTests.class, SeatingTests.class, LacingTests.class, TrialTests.class,
        ChanceTests.class, ToldTests.class,
    };
    /** Their tests are those whose names begin with "all". */
    private static final Class<?>[] OF_ALL = {DocumentTests.class, FaceTests.class, RestTests.class, AgainstModel.class, ReadmeTests.class};
    private static final long LONGEST_MILLIS = 120_000;

    public static void main(String[] args) throws InterruptedException {
        List<Method> tests = ofSentences();
        tests.addAll(ofAll());
        int failed = 0;
        for (Method test : tests) {
            if (!passes(test)) {
                failed++;
                System.out.println("failed: " + name(test));
            }
        }
        System.out.println(tests.size() - failed + " passed, " + failed + " failed");
        System.exit(failed == 0 ? 0 : 1);
    }

    static List<Method> ofSentences() {
        List<Method> tests = new ArrayList<>();
        for (Class<?> c : OF_SENTENCES) {
            for (Method m : c.getDeclaredMethods()) {
                if (m.isAnnotationPresent(Says.class)) {
                    tests.add(m);
                }
            }
        }
        tests.sort(Comparator.comparing((Method m) -> m.getAnnotation(Says.class).promise()).thenComparing(AllTests::place));
        return tests;
    }

    private static List<Method> ofAll() {
        List<Method> tests = new ArrayList<>();
        for (Class<?> c : OF_ALL) {
            for (Method m : c.getDeclaredMethods()) {
                if (m.getName().startsWith("all")) {
                    tests.add(m);
                }
            }
        }
        tests.sort(Comparator.comparing(AllTests::place));
        return tests;
    }

    private static String place(Method test) {
        return test.getDeclaringClass().getSimpleName() + "." + test.getName();
    }

    static String name(Method test) {
        Says says = test.getAnnotation(Says.class);
        if (says == null) {
            return place(test);
        }
        String number = says.promise() == Says.TERMS ? "terms" : "promise " + says.promise();
        return number + ", \"" + says.sentence() + "\", " + place(test);
    }

    /** In a thread of its own, so that a call that doesn't end fails its test and not the whole run. */
    private static boolean passes(Method test) throws InterruptedException {
        int before = Check.wrongSoFar();
        boolean[] ended = {false};
        Thread thread = new Thread(() -> ended[0] = runs(test));
        thread.setDaemon(true);
        thread.start();
        thread.join(LONGEST_MILLIS);
        if (thread.isAlive()) {
            Check.fail(place(test) + " doesn't end");
        }
        return ended[0] && Check.wrongSoFar() == before;
    }

    private static boolean runs(Method test) {
        try {
            test.setAccessible(true);
            test.invoke(null);
            return true;
        } catch (InvocationTargetException e) {
            System.out.println("    " + place(test) + " threw " + e.getCause() + " by " + e.getCause().getCause());
        } catch (IllegalAccessException e) {
            System.out.println("    " + place(test) + " can't be called: " + e);
        }
        return false;
    }

    private AllTests() {
    }
}
