/** Promises 31 to 33: what a pole is of. */
final class TrialTests {
    private static final int BAD = PoleNave.BAD, NONE = PoleNave.NONE;
    private static final int LOWEST = Check.LOWEST, HIGHEST = Check.HIGHEST;

    /** The three calls that take a pole and a row of triples. */
    private static int call(PoleNave x, int which, int k, int r) {
        return which == 0 ? x.strengths(k, r) : which == 1 ? x.kinds(k, r) : x.test(k, r);
    }

    private static void refusals(int which) {
        PoleNave empty = new PoleNave();
        Check.refuses(empty, "trial without poles", () -> call(empty, which, 0, 0), BAD);
        PoleNave x = Check.naveBy("p720 r720 m10");
        int[][] bad = {{-1, 0}, {2, 0}, {0, -1}, {0, 6}, {2, 6}, {HIGHEST, 0}, {LOWEST, 0}, {0, HIGHEST}, {0, LOWEST}};
        for (int[] c : bad) {
            Check.refuses(x, "trial(" + c[0] + ", " + c[1] + ")", () -> call(x, which, c[0], c[1]), BAD);
        }
        Check.finds(x, "trial by a ROW missing", () -> call(x, which, 0, 3), Check.NOTHING);
        int[][] sizes = {{4}, {4, 5}, {4, 5, 1, 4}, {4, 5, 1, 4, 5}, {21, 5}, {4, 5, 2, -1}};
        for (int[] places : sizes) {
            Check.fill(x, 2, places);
            Check.finds(x, "trial by " + places.length + " places", () -> call(x, which, 0, 2), Check.SIZE);
        }
        int[][] unlike = {
            {-1, 5, 1}, {21, 5, 1}, {4, -1, 1}, {4, 100, 1}, {4, 5, -1}, {4, 5, 2}, {4, 5, NONE}, {HIGHEST, 5, 1},
            {4, LOWEST, 1}, {4, 5, 1, 4, 5, 3}, {4, 5, 0, 4, 100, 0}, {4, 5, 0, 30, 5, 0}, {4, 99, 1, 4, 5, 1, 21, 0, 0},
        };
        for (int[] places : unlike) {
            Check.fill(x, 2, places);
            Check.finds(x, "trial by a number that is none", () -> call(x, which, 0, 2), Check.UNLIKE);
        }
        int[][] well = {{0, 0, 1}, {20, 0, 1}, {0, 99, 0}, {20, 99, 0}};
        for (int[] places : well) {
            Check.fill(x, 2, places);
            int finding = x.findings(Check.UNLIKE);
            call(x, which, 0, 2);
            Check.due("findings(3) behind a trial by the ends of numbers", x.findings(Check.UNLIKE), finding);
        }
    }

    static void promise31Strengths() {
        refusals(0);
        PoleNave x = Check.naveBy("p720 r720 d720 s720 m10");
        strengthsBy(x, 0, 61, 0);
        strengthsBy(x, 0, 46, 15, 0, 15, 1);
        strengthsBy(x, 0, 1, 15, 0, 15, 1, 3, 10, 0);
        strengthsBy(x, 0, 2, 14, 0, 14, 1, 3, 10, 0);
        strengthsBy(x, 0, 1, 60, 0, 60, 1);
        strengthsBy(x, 0, 1, 0, 0, 1, 0);
        strengthsBy(x, 0, 61, 0, 20, 0, 1);
        strengthsBy(x, 1, 48, 13, 3, 5, 1);
        strengthsBy(x, 2, 61, 0, 20, 14, 1);
        strengthsBy(x, 2, 12, 0, 5, 21, 0);
        strengthsBy(x, 3, 46, 15, 0, 10, 1);
        int[][] none = {{0, 15, 1, 3, 9, 0}, {0, 0, 0}, {0, 61, 1}, {2, 30, 1, 2, 30, 0}};
        for (int[] places : none) {
            Check.fill(x, 2, places);
            Check.refuses(x, "strengths(0, 2) of none", () -> x.strengths(0, 2), NONE);
        }
        x.year();
        strengthsBy(x, 0, 46, 15, 0, 15, 1);
    }

    private static void strengthsBy(PoleNave x, int k, int want, int least, int... places) {
        Check.fill(x, 2, places);
        long digest = x.digest();
        Check.tells(x, "strengths(" + k + ", 2)", () -> x.strengths(k, 2), want, least);
        Check.due("digest() behind strengths(" + k + ", 2)", x.digest(), digest);
    }

    static void promise32Kinds() {
        refusals(1);
        PoleNave x = Check.naveBy("p720 k520 m10");
        kindsBy(x, 0, 63);
        kindsBy(x, 0, 21, 4, 12, 1);
        kindsBy(x, 0, 1, 4, 12, 1, 4, 16, 0);
        kindsBy(x, 0, 34, 4, 8, 1, 4, 9, 0);
        kindsBy(x, 0, 8, 4, 11, 1, 4, 12, 0);
        kindsBy(x, 0, 16, 4, 17, 1);
        kindsBy(x, 0, 4, 4, 16, 1, 4, 17, 0);
        kindsBy(x, 0, 43, 4, 13, 0);
        kindsBy(x, 0, 0, 4, 31, 1);
        kindsBy(x, 1, 53, 4, 12, 1);
        kindsBy(x, 1, 2, 4, 8, 1, 4, 9, 0);
        kindsBy(x, 1, 16, 4, 26, 1);
        kindsBy(x, 1, 0, 4, 27, 1);
        x.year();
        kindsBy(x, 0, 21, 4, 12, 1);
    }

    private static void kindsBy(PoleNave x, int k, int want, int... places) {
        Check.fill(x, 2, places);
        Check.aside(x, "kinds(" + k + ", 2)", () -> x.kinds(k, 2), want);
    }

    static void promise33Test() {
        refusals(2);
        PoleNave x = Check.naveBy("p720 k520 s160 m10");
        testBy(x, 0, 16, 5);
        testBy(x, 0, 0, 1, 4, 17, 1);
        testBy(x, 0, 21, 2, 4, 12, 1);
        testBy(x, 2, 56, 5);
        Check.years(x, 4);
        testBy(x, 0, 12, 3);
        testBy(x, 0, 9, 2, 4, 16, 0);
        testBy(x, 1, 12, 4);
        testBy(x, 0, 0, 2, 4, 8, 1, 4, 9, 0);
        int[][] none = {{4, 31, 1}, {0, 0, 0}};
        for (int[] places : none) {
            Check.fill(x, 2, places);
            Check.refuses(x, "test(0, 2) of no kind", () -> x.test(0, 2), NONE);
        }
    }

    private static void testBy(PoleNave x, int k, int want, int part, int... places) {
        Check.fill(x, 2, places);
        long digest = x.digest();
        Check.tells(x, "test(" + k + ", 2)", () -> x.test(k, 2), want, part);
        Check.due("digest() behind test(" + k + ", 2)", x.digest(), digest);
    }

    private TrialTests() {
    }
}
