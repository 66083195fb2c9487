/** Answers that aren't due: each one is printed and counted. */
final class Check {
    private static int wrong;

    static int wrongSoFar() {
        return wrong;
    }

    static void fail(String what) {
        wrong++;
        System.out.println("    " + what);
    }

    static void due(String what, long got, long want) {
        if (got != want) {
            fail(what + " answered " + got + ", due is " + want);
        }
    }

    private Check() {
    }
}
