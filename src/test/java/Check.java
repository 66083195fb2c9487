import java.util.function.IntSupplier;
import java.util.function.LongSupplier;

/** What the tests of the promises say of answers: each one that isn't due is printed and counted. */
final class Check {
    static final int NOTHING = 1, BEYOND = 2, UNLIKE = 3, NOUGHT = 4, SIZE = 5;
    static final int LOWEST = Integer.MIN_VALUE, HIGHEST = Integer.MAX_VALUE;

    private static int wrong;

    static int wrongSoFar() {
        return wrong;
    }

    static void fail(String what) {
        wrong++;
        System.out.println("    " + what);
    }

    static void due(String call, long got, long want) {
        if (got != want) {
            fail(call + " answered " + got + ", due is " + want);
        }
    }

    /** A call that answers want and tells so much by asked(). */
    static void tells(PoleNave x, String call, IntSupplier answer, int want, int told) {
        due(call, answer.getAsInt(), want);
        due("asked() behind " + call, x.asked(), told);
    }

    /** A call that answers want and changes nothing at all, no finding either. */
    static void aside(PoleNave x, String call, LongSupplier answer, long want) {
        keeps(x, call, answer, want, 0);
    }

    /** A call that is refused by BAD, FULL, STATE or answers NONE: nothing is changed. */
    static void refuses(PoleNave x, String call, IntSupplier answer, int want) {
        keeps(x, call, answer::getAsInt, want, 0);
    }

    /** A call that is refused by a finding: nothing but finding(), findings() is changed. */
    static void finds(PoleNave x, String call, IntSupplier answer, int finding) {
        keeps(x, call, answer::getAsInt, PoleNave.FINDING, finding);
    }

    private static void keeps(PoleNave x, String call, LongSupplier answer, long want, int finding) {
        long digest = x.digest();
        long asked = x.asked(), upper = x.upper(), lower = x.lower();
        int latest = finding == 0 ? x.finding() : finding;
        int[] often = new int[6];
        for (int f = 1; f <= 5; f++) {
            often[f] = x.findings(f) + (f == finding ? 1 : 0);
        }
        due(call, answer.getAsLong(), want);
        due("digest() behind " + call, x.digest(), digest);
        due("asked() behind " + call, x.asked(), asked);
        due("upper() behind " + call, x.upper(), upper);
        due("lower() behind " + call, x.lower(), lower);
        due("finding() behind " + call, x.finding(), latest);
        for (int f = 1; f <= 5; f++) {
            due("findings(" + f + ") behind " + call, x.findings(f), often[f]);
        }
    }

    static void write(PoleNave x, int t, String signs) {
        due("text(" + t + ", " + signs.length() + ")", x.text(t, signs.length()), signs.length());
        for (int i = 0; i < signs.length(); i++) {
            x.put(t, i, signs.charAt(i));
        }
    }

    /** A new object with a nave by these signs, in TEXT 0. */
    static PoleNave naveBy(String signs) {
        PoleNave x = new PoleNave();
        write(x, 0, signs);
        if (x.nave(0) < 1) {
            fail("nave(0) by " + signs + " is refused");
        }
        return x;
    }

    static void fill(PoleNave x, int r, int... places) {
        x.row(r, places.length);
        for (int i = 0; i < places.length; i++) {
            x.lay(r, i, places[i]);
        }
    }

    /** The ROW holds just these places; asked() moves by the looking. */
    static void holds(PoleNave x, int r, int... places) {
        for (int i = 0; i < places.length; i++) {
            due("at(" + r + ", " + i + ")", x.at(r, i), 1);
            due("asked() behind at(" + r + ", " + i + ")", x.asked(), places[i]);
        }
        due("at(" + r + ", " + places.length + ") beyond its size", x.at(r, places.length), PoleNave.FINDING);
        due("finding() beyond its size", x.finding(), BEYOND);
    }

    static void isMissing(PoleNave x, int r) {
        due("at(" + r + ", 0) of a ROW that is missing", x.at(r, 0), PoleNave.FINDING);
        due("finding() of a ROW that is missing", x.finding(), NOTHING);
    }

    static void pole(PoleNave x, int k, int... of) {
        for (int what = 0; what < of.length; what++) {
            final int w = what;
            tells(x, "pole(" + k + ", " + w + ")", () -> x.pole(k, w), 1, of[w]);
        }
    }

    static void poleTells(PoleNave x, int k, int what, int told) {
        tells(x, "pole(" + k + ", " + what + ")", () -> x.pole(k, what), 1, told);
    }

    static void oneTells(PoleNave x, int i, int what, int told) {
        tells(x, "one(" + i + ", " + what + ")", () -> x.one(i, what), 1, told);
    }

    static void years(PoleNave x, int n) {
        for (int j = 0; j < n; j++) {
            x.year();
        }
    }

    static void stones(PoleNave x, int n) {
        for (int j = 0; j < n; j++) {
            x.stone();
        }
    }

    private Check() {
    }
}
