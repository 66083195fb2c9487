import java.lang.reflect.Method;
import java.util.Arrays;

/** Long runs of calls, the same ones each time, on PoleNave and on Model side by side. */
final class AgainstModel {
    private static final int RUNS = 240, STEPS = 400, WRONG_ENOUGH = 20;

    /** Each call with a letter for each argument, whose ends stand in ENDS. */
    private static final String[][] CALLS = {
        {"row", "rn"}, {"lay", "riv"}, {"at", "ri"}, {"tear", "r"}, {"copy", "ririi"}, {"mean", "r"},
        {"text", "tn"}, {"put", "tiv"}, {"fault", "t"}, {"nave", "t"}, {"pole", "kq"}, {"one", "oq"},
        {"mark", "kq"}, {"bears", "kw"}, {"sit", "ok"}, {"sit", "ok"}, {"sit", "ok"}, {"sit", "ok"}, {"down", "o"},
        {"lace", "k"}, {"stone", ""}, {"year", ""}, {"year", ""}, {"undo", "n"}, {"keep", "p"}, {"on", "p"},
        {"holds", ""}, {"gives", "k"}, {"later", "n"}, {"best", "r"}, {"fewest", ""}, {"seated", "r"}, {"laces", "qr"},
        {"strengths", "kr"}, {"kinds", "kr"}, {"test", "kr"}, {"duel", "f"}, {"odds", "oc"}, {"mid", "c"},
        {"lots", "cs"}, {"asked", ""}, {"upper", ""}, {"lower", ""}, {"count", "c"}, {"finding", ""},
        {"findings", "q"}, {"digest", ""},
    };
    private static final String LETTERS = "rtinvkoqwpfcs";
    private static final int[][] ENDS = {
        {-1, 6}, {-1, 4}, {-1, 12}, {-1, 43}, {-30, 130}, {-1, 4}, {-1, 5}, {-1, 8}, {-1, 21}, {-1, 3}, {-1, 5}, {-1, 13},
        {1, 2147483646},
    };
    private static final int[] WILD = {Check.LOWEST, Check.LOWEST + 1, -10, -9, -2, -1, 0, 1, 40, 41, 60, 61, 99, 100, 512,
        Check.HIGHEST - 1, Check.HIGHEST};

    private final PoleNave nave = new PoleNave();
    private final Model model = new Model();
    private final StringBuilder path = new StringBuilder();
    private long seed;

    private AgainstModel(int run) {
        seed = 1000003L * run + 12345;
    }

    static void allCallsAgainstModel() throws ReflectiveOperationException {
        int before = Check.wrongSoFar();
        for (int run = 0; run < RUNS && Check.wrongSoFar() - before < WRONG_ENOUGH; run++) {
            new AgainstModel(run).go();
        }
    }

    private void go() throws ReflectiveOperationException {
        boolean alike = true;
        for (int step = 0; step < STEPS && alike; step++) {
            int what = pick(0, 99);
            if (step == 5 || what < 2) {
                alike = writesNave();
            } else if (what < 8) {
                alike = fillsTriples();
            } else if (what < 11) {
                alike = fillsSeats();
            } else {
                String[] call = CALLS[pick(0, CALLS.length - 1)];
                alike = same(call[0], arguments(call[1]));
            }
        }
    }

    private int pick(int least, int most) {
        seed = seed * 6364136223846793005L + 1442695040888963407L;
        return (int) (least + Math.floorMod(seed >>> 33, (long) most - least + 1));
    }

    private Object[] arguments(String letters) {
        Object[] all = new Object[letters.length()];
        for (int a = 0; a < all.length; a++) {
            int[] ends = ENDS[LETTERS.indexOf(letters.charAt(a))];
            all[a] = pick(0, 49) == 0 ? WILD[pick(0, WILD.length - 1)] : pick(ends[0], ends[1]);
        }
        return all;
    }

    private boolean same(String name, Object... arguments) throws ReflectiveOperationException {
        Class<?>[] types = new Class<?>[arguments.length];
        Arrays.fill(types, int.class);
        path.append(name).append(Arrays.toString(arguments)).append(' ');
        Method real = PoleNave.class.getMethod(name, types);
        Method plain = Model.class.getMethod(name, types);
        Object got = real.invoke(nave, arguments);
        Object want = plain.invoke(model, arguments);
        if (got.equals(want) && alike()) {
            return true;
        }
        Check.fail(name + Arrays.toString(arguments) + " answered " + got + ", the model " + want + ", behind " + path);
        return false;
    }

    private boolean alike() {
        return nave.asked() == model.asked() && nave.upper() == model.upper() && nave.lower() == model.lower()
            && nave.finding() == model.finding() && nave.digest() == model.digest();
    }

    private boolean writesNave() throws ReflectiveOperationException {
        StringBuilder signs = new StringBuilder();
        int poles = pick(1, 4);
        int people = pick(1, 5);
        while (poles + people > 0) {
            boolean pole = pick(1, poles + people) <= poles;
            signs.append(pole ? aPole() : "m" + pick(1, 9) + pick(0, 9)).append(" ".repeat(pick(0, 3) / 2));
            poles -= pole ? 1 : 0;
            people -= pole ? 0 : 1;
        }
        if (pick(0, 9) == 0) {
            signs.setCharAt(pick(0, signs.length() - 1), "pm 0169x".charAt(pick(0, 7)));
        }
        int t = pick(0, 3);
        boolean alike = same("text", t, signs.length());
        for (int i = 0; i < signs.length() && alike; i++) {
            alike = same("put", t, i, (int) signs.charAt(i));
        }
        return alike && same("fault", t) && same("nave", t);
    }

    private String aPole() {
        int most = pick(0, 2) == 0 ? 60 : 25;
        return "prlsdk".charAt(pick(0, 5)) + String.format("%d%02d", pick(1, 9), pick(0, most));
    }

    private boolean fillsTriples() throws ReflectiveOperationException {
        int r = pick(0, 5);
        int many = pick(0, 3);
        boolean alike = same("row", r, 3 * many);
        for (int j = 0; j < many && alike; j++) {
            boolean held = pick(0, 1) == 1;
            alike = same("lay", r, 3 * j, pick(0, 9)) && same("lay", r, 3 * j + 1, held ? pick(0, 12) : pick(5, 40))
                && same("lay", r, 3 * j + 2, held ? 1 : 0);
        }
        int k = pick(0, 3);
        return alike && same("strengths", k, r) && same("kinds", k, r) && same("test", k, r);
    }

    private boolean fillsSeats() throws ReflectiveOperationException {
        int r = pick(0, 5);
        int many = model.count(1);
        boolean alike = same("row", r, many);
        for (int i = 0; i < many && alike; i++) {
            int k = pick(-1, model.count(0) - 1 + pick(0, 9) / 9);
            alike = same("lay", r, i, k < 0 ? PoleNave.NONE : k);
        }
        return alike && same("seated", r);
    }
}
