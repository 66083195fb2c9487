import java.util.Arrays;

/** Long runs of calls, the same ones each time, on PoleNave and on Model side by side; none goes beyond 512 calls. */
final class AgainstModel {
    private static final int RUNS = 1000, WRONG_ENOUGH = 20;
    /** As many calls as a step can take (a text of 60 signs, a nave by it), and those at the end. */
    private static final int LONGEST_STEP = 80, AT_THE_END = 8;

    /** Each call with a letter for each argument, whose ends stand in ENDS. */
    private static final String[][] CALLS = {
        {"row", "rn"}, {"lay", "riv"}, {"at", "ri"}, {"tear", "r"}, {"copy", "ririi"}, {"mean", "r"},
        {"text", "tn"}, {"put", "tiv"}, {"fault", "t"}, {"nave", "t"}, {"pole", "kq"}, {"one", "oq"},
        {"mark", "kq"}, {"bears", "kw"}, {"sit", "ok"}, {"sit", "ok"}, {"sit", "ok"}, {"sit", "ok"}, {"down", "o"},
        {"lace", "k"}, {"stone", ""}, {"year", ""}, {"year", ""}, {"undo", "n"}, {"keep", "p"}, {"on", "p"},
        {"holds", ""}, {"gives", "k"}, {"later", "n"}, {"best", "r"}, {"fewest", ""}, {"seated", "r"}, {"laces", "qr"},
        {"strengths", "kr"}, {"kinds", "kr"}, {"test", "kr"}, {"duel", "f"}, {"odds", "oc"}, {"mid", "c"},
        {"lots", "cs"}, {"asked", ""}, {"upper", ""}, {"lower", ""}, {"count", "c"}, {"finding", ""},
        {"findings", "q"}, {"digest", ""},
    };
    private static final String LETTERS = "rtinvkoqwpfcs";
    private static final int[][] ENDS = {
        {-1, 6}, {-1, 4}, {-1, 12}, {-1, 43}, {-30, 130}, {-1, 4}, {-1, 5}, {-1, 8}, {-1, 21}, {-1, 3}, {-1, 5}, {-1, 13},
        {1, 2147483646},
    };
    private static final int[] WILD = {Tests.LOWEST, Tests.LOWEST + 1, -10, -9, -2, -1, 0, 1, 40, 41, 60, 61, 99, 100, 512,
        Tests.HIGHEST - 1, Tests.HIGHEST};

    private static final int[] ENDS_OF_INTS = {Tests.LOWEST, -1, 0, 1, Tests.HIGHEST};

    private final PoleNave nave = new PoleNave();
    private final Model model = new Model();
    private final StringBuilder path = new StringBuilder();
    private long seed;
    private int calls;

    private AgainstModel(int run) {
        seed = 1000003L * run + 12345;
    }

    static void allCallsAgainstModel() throws ReflectiveOperationException {
        int before = Check.wrongSoFar();
        for (int run = 0; run < RUNS && Check.wrongSoFar() - before < WRONG_ENOUGH; run++) {
            new AgainstModel(run).go();
        }
    }

    /** Each call with the ends of all ints, and what is beside 0, for each of its arguments, without a nave and with one. */
    static void allEndsOfIntsAgainstModel() throws ReflectiveOperationException {
        for (String[] call : CALLS) {
            eachOfTheEnds(call, false);
            eachOfTheEnds(call, true);
        }
    }

    private static void eachOfTheEnds(String[] call, boolean withNave) throws ReflectiveOperationException {
        double many = Math.pow(ENDS_OF_INTS.length, call[1].length());
        AgainstModel x = null;
        boolean alike = true;
        for (int j = 0; j < many && alike; j++) {
            if (x == null || x.calls > Nave.MOST_CALLS - AT_THE_END) {
                x = new AgainstModel(j);
                alike = !withNave || x.writesNave();
            }
            Object[] arguments = new Object[call[1].length()];
            int rest = j;
            for (int a = 0; a < arguments.length; a++) {
                arguments[a] = ENDS_OF_INTS[rest % ENDS_OF_INTS.length];
                rest /= ENDS_OF_INTS.length;
            }
            alike = alike && x.same(call[0], arguments);
        }
    }

    private void go() throws ReflectiveOperationException {
        boolean alike = true;
        for (int step = 0; alike && calls <= Nave.MOST_CALLS - LONGEST_STEP - AT_THE_END; step++) {
            int what = pick(0, 99);
            if (step == 5 || what < 2) {
                alike = writesNave();
            } else if (what < 8) {
                alike = fillsTriples();
            } else if (what < 11) {
                alike = fillsSeats();
            } else {
                String[] call = CALLS[pick(0, CALLS.length - 1)];
                alike = same(call[0], arguments(call[1]));
            }
        }
        for (int f = 0; alike && f <= 6; f++) {
            alike = answersAlike("findings", f);
        }
        if (calls > Nave.MOST_CALLS) {
            Check.fail("a run of " + calls + " calls");
        }
    }

    private int pick(int least, int most) {
        seed = seed * 6364136223846793005L + 1442695040888963407L;
        return (int) (least + Math.floorMod(seed >>> 33, (long) most - least + 1));
    }

    private Object[] arguments(String letters) {
        Object[] all = new Object[letters.length()];
        for (int a = 0; a < all.length; a++) {
            int[] ends = ENDS[LETTERS.indexOf(letters.charAt(a))];
            all[a] = pick(0, 49) == 0 ? WILD[pick(0, WILD.length - 1)] : pick(ends[0], ends[1]);
        }
        return all;
    }

    /** A call, and what it told or changed. */
    private boolean same(String name, Object... arguments) throws ReflectiveOperationException {
        boolean alike = answersAlike(name, arguments);
        if (name.equals("odds") || name.equals("mid")) {
            alike = alike && looksAlike("upper") && looksAlike("lower");
        }
        return alike && looksAlike("asked") && looksAlike("finding") && looksAlike("digest");
    }

    private boolean answersAlike(String name, Object... arguments) throws ReflectiveOperationException {
        path.append(name).append(Arrays.toString(arguments)).append(' ');
        return looksAlike(name, arguments);
    }

    private boolean looksAlike(String name, Object... arguments) throws ReflectiveOperationException {
        Class<?>[] types = new Class<?>[arguments.length];
        Arrays.fill(types, int.class);
        calls++;
        Object got = PoleNave.class.getMethod(name, types).invoke(nave, arguments);
        Object want = Model.class.getMethod(name, types).invoke(model, arguments);
        if (!got.equals(want)) {
            Check.fail(name + Arrays.toString(arguments) + " answered " + got + ", the model " + want + ", behind " + path);
        }
        return got.equals(want);
    }

    private boolean writesNave() throws ReflectiveOperationException {
        StringBuilder signs = new StringBuilder();
        int poles = pick(1, 4);
        int people = pick(1, 5);
        while (poles + people > 0) {
            boolean pole = pick(1, poles + people) <= poles;
            signs.append(pole ? aPole() : "m" + pick(1, 9) + pick(0, 9)).append(" ".repeat(pick(0, 3) / 2));
            poles -= pole ? 1 : 0;
            people -= pole ? 0 : 1;
        }
        if (pick(0, 9) == 0) {
            signs.setCharAt(pick(0, signs.length() - 1), "pm 0169x".charAt(pick(0, 7)));
        }
        int t = pick(0, 3);
        boolean alike = answersAlike("text", t, signs.length());
        for (int i = 0; i < signs.length() && alike; i++) {
            alike = answersAlike("put", t, i, (int) signs.charAt(i));
        }
        return alike && same("fault", t) && same("nave", t);
    }

    private String aPole() {
        int most = pick(0, 2) == 0 ? 60 : 25;
        return "prlsdk".charAt(pick(0, 5)) + String.format("%d%02d", pick(1, 9), pick(0, most));
    }

    private boolean fillsTriples() throws ReflectiveOperationException {
        int r = pick(0, 5);
        int many = pick(0, 3);
        boolean alike = same("row", r, 3 * many);
        for (int j = 0; j < many && alike; j++) {
            boolean held = pick(0, 1) == 1;
            alike = answersAlike("lay", r, 3 * j, pick(0, 9))
                && answersAlike("lay", r, 3 * j + 1, held ? pick(0, 12) : pick(5, 40))
                && answersAlike("lay", r, 3 * j + 2, held ? 1 : 0);
        }
        int k = pick(0, 3);
        return alike && same("strengths", k, r) && same("kinds", k, r) && same("test", k, r);
    }

    private boolean fillsSeats() throws ReflectiveOperationException {
        int r = pick(0, 5);
        int many = model.count(1);
        boolean alike = same("row", r, many);
        for (int i = 0; i < many && alike; i++) {
            int k = pick(-1, model.count(0) - 1 + pick(0, 9) / 9);
            alike = answersAlike("lay", r, i, k < 0 ? PoleNave.NONE : k);
        }
        return alike && same("seated", r);
    }
}
