import java.lang.reflect.InvocationTargetException;
import java.lang.reflect.Method;
import java.util.Arrays;
import java.util.HashMap;
import java.util.Map;

/**
 * A PoleNave with its calls by name, with what is due for each, and counted: what an object answers behind its call
 * 512 is free, so no test may go there.
 */
final class Nave {
    static final int MOST_CALLS = 512;
    private static final Map<String, Method> METHODS = new HashMap<>();

    static {
        for (Method m : PoleNave.class.getMethods()) {
            METHODS.put(m.getName(), m);
        }
    }

    private final PoleNave inner = new PoleNave();
    private int calls;
    private long[] seen;
    private int seenAt = -1;

    /** A new object with a nave by these signs, in TEXT 0. */
    static Nave by(String signs) {
        Nave x = new Nave().write(0, signs);
        if (x.call("nave", 0) < 1) {
            Check.fail("nave(0) by '" + signs + "' is refused");
        }
        return x;
    }

    int calls() {
        return calls;
    }

    long call(String name, int... numbers) {
        calls++;
        if (calls == MOST_CALLS + 1) {
            Check.fail("more than 512 calls of one object");
        }
        try {
            Object[] boxed = Arrays.stream(numbers).boxed().toArray();
            return ((Number) METHODS.get(name).invoke(inner, boxed)).longValue();
        } catch (InvocationTargetException e) {
            throw new IllegalStateException(label(name, numbers) + " threw", e.getCause());
        } catch (IllegalAccessException e) {
            throw new IllegalStateException(label(name, numbers) + " can't be called", e);
        }
    }

    /** A call written as its name and its numbers, with blanks between. */
    long callBy(String line) {
        String[] words = line.split(" ");
        return call(words[0], numbers(words, 1));
    }

    static int[] numbers(String[] words, int from) {
        int[] numbers = new int[words.length - from];
        for (int j = 0; j < numbers.length; j++) {
            numbers[j] = Integer.parseInt(words[j + from]);
        }
        return numbers;
    }

    private static String label(String name, int... numbers) {
        String list = Arrays.toString(numbers);
        return name + "(" + list.substring(1, list.length() - 1) + ")";
    }

    Nave due(long want, String name, int... numbers) {
        Check.due(label(name, numbers), call(name, numbers), want);
        return this;
    }

    /** A call that answers want, and tells so much by asked(). */
    Nave tells(int want, int told, String name, int... numbers) {
        due(want, name, numbers);
        Check.due("asked() behind " + label(name, numbers), call("asked"), told);
        return this;
    }

    /** A call that answers 1, and tells this number by upper(), lower(). */
    Nave tellsParts(int upper, int lower, String name, int... numbers) {
        due(1, name, numbers);
        Check.due("upper() behind " + label(name, numbers), call("upper"), upper);
        Check.due("lower() behind " + label(name, numbers), call("lower"), lower);
        return this;
    }

    /** A call that answers want, tells nothing by another call, and changes nothing. */
    Nave aside(long want, String name, int... numbers) {
        keepsAll(want, 0, name, numbers);
        return this;
    }

    /** A call that is refused without a finding, or answers NONE: nothing is changed. */
    Nave refuses(int want, String name, int... numbers) {
        keepsAll(want, 0, name, numbers);
        return this;
    }

    /** A call that is refused by a finding: nothing but finding(), findings() is changed. */
    Nave finds(int finding, String name, int... numbers) {
        keepsAll(Tests.FINDING, finding, name, numbers);
        return this;
    }

    private void keepsAll(long want, int finding, String name, int... numbers) {
        long[] before = state().clone();
        if (finding > 0) {
            before[4] = finding;
            before[4 + finding]++;
        }
        due(want, name, numbers);
        String[] told = {"digest()", "asked()", "upper()", "lower()", "finding()",
            "findings(1)", "findings(2)", "findings(3)", "findings(4)", "findings(5)"};
        long[] behind = state();
        for (int j = 0; j < told.length; j++) {
            Check.due(told[j] + " behind " + label(name, numbers), behind[j], before[j]);
        }
    }

    /** All that can be told at once; it isn't asked for again while nothing else is called. */
    private long[] state() {
        if (seenAt != calls) {
            seen = new long[] {call("digest"), call("asked"), call("upper"), call("lower"), call("finding"),
                call("findings", 1), call("findings", 2), call("findings", 3), call("findings", 4), call("findings", 5)};
            seenAt = calls;
        }
        return seen;
    }

    Nave write(int t, String signs) {
        due(signs.length(), "text", t, signs.length());
        for (int i = 0; i < signs.length(); i++) {
            if (signs.charAt(i) != ' ') {
                call("put", t, i, signs.charAt(i));
            }
        }
        return this;
    }

    Nave fill(int r, int... places) {
        call("row", r, places.length);
        for (int i = 0; i < places.length; i++) {
            if (places[i] != 0) {
                call("lay", r, i, places[i]);
            }
        }
        return this;
    }

    /** The ROW holds just these places; asked() moves by the looking. */
    Nave rowIs(int r, int... places) {
        for (int i = 0; i < places.length; i++) {
            tells(1, places[i], "at", r, i);
        }
        return due(Tests.FINDING, "at", r, places.length).due(Tests.BEYOND, "finding");
    }

    Nave rowIsMissing(int r) {
        return due(Tests.FINDING, "at", r, 0).due(Tests.NOTHING, "finding");
    }

    Nave sits(int i, int k) {
        call("sit", i, k);
        return this;
    }

    Nave years(int n) {
        return times(n, "year");
    }

    Nave stones(int n) {
        return times(n, "stone");
    }

    private Nave times(int n, String name) {
        for (int j = 0; j < n; j++) {
            call(name);
        }
        return this;
    }

    /** Stones, until there are so many deeds. */
    Nave deeds(int n) {
        return stones(n - (int) call("count", 2));
    }
}
