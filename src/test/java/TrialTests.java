/** Promises 31 to 33: what a pole is of. */
final class TrialTests extends Tests {
    private static final String STRENGTHS = "How STRONG a POLE can be by these (0 .. 60), all else as it is: how many; the least by "
        + "asked().";
    private static final String LOAD_TO_TRY = "The LOAD (0 .. 99) to try with WEAR as it is, by which these KINDS are told apart best: "
        + "the greater part (who would HOLD it, or not) is least (the first); that part by asked().";
    private static final int[] WELL = {0, 0, 1};

    // ---- 31 strengths

    private static Nave strengthsAre(Nave x, int want, int least, int... places) {
        x.fill(2, places);
        long digest = x.call("digest");
        return x.tells(want, least, "strengths", 0, 2).due(digest, "digest");
    }

    @Says(promise = 31, sentence = STRENGTHS)
    static void strengthsFromNoneToSixty() {
        Nave x = Nave.by("p720 m10");
        strengthsAre(x, 61, 0);
        strengthsAre(x, 61, 0, 0, 0, 1);
        strengthsAre(x, 60, 1, 0, 1, 1);
        strengthsAre(x, 2, 59, 0, 59, 1);
        strengthsAre(x, 1, 60, 0, 60, 1);
        strengthsAre(x, 1, 0, 0, 1, 0);
        strengthsAre(x, 60, 0, 0, 60, 0);
        strengthsAre(x, 61, 0, 0, 61, 0);
        strengthsAre(x, 61, 0, 0, 99, 0);
        strengthsAre(x, 61, 0, 20, 0, 1);
        strengthsAre(x, 21, 40, 20, 0, 1, 20, 0, 1, 1, 38, 1);
        strengthsAre(x, 20, 41, 20, 1, 1);
    }

    @Says(promise = 31, sentence = STRENGTHS)
    static void strengthsByOneMoreOrLess() {
        Nave x = Nave.by("p720 m10");
        strengthsAre(x, 46, 15, 0, 15, 1);
        strengthsAre(x, 15, 0, 0, 15, 0);
        strengthsAre(x, 1, 15, 0, 15, 1, 3, 10, 0);
        strengthsAre(x, 2, 14, 0, 14, 1, 3, 10, 0);
        strengthsAre(x, 1, 15, 0, 15, 1, 0, 16, 0);
        strengthsAre(x, 1, 16, 3, 10, 1, 3, 11, 0);
    }

    @Says(promise = 31, sentence = STRENGTHS)
    static void strengthsOfEachKindAsItIs() {
        strengthsAre(Nave.by("p720 m10"), 50, 11, 3, 5, 1);
        strengthsAre(Nave.by("r720 m10"), 48, 13, 3, 5, 1);
        strengthsAre(Nave.by("r720 m10"), 52, 9, 2, 5, 1);
        strengthsAre(Nave.by("l720 m10"), 53, 8, 3, 5, 1);
        strengthsAre(Nave.by("s720 m10"), 48, 13, 3, 5, 1);
        strengthsAre(Nave.by("s720 m10"), 46, 15, 0, 10, 1);
        strengthsAre(Nave.by("d720 m10"), 61, 0, 3, 5, 1);
        strengthsAre(Nave.by("d720 m10"), 55, 6, 0, 20, 1);
        strengthsAre(Nave.by("d720 m10"), 61, 0, 20, 14, 1);
        strengthsAre(Nave.by("d720 m10"), 12, 0, 5, 21, 0);
        strengthsAre(Nave.by("d120 m10"), 58, 3, 0, 5, 1);
        strengthsAre(Nave.by("k520 m10"), 50, 11, 3, 5, 1);
        strengthsAre(Nave.by("k620 m10"), 48, 13, 3, 5, 1);
    }

    @Says(promise = 31, sentence = STRENGTHS)
    static void strengthsWhateverItsWear() {
        Nave x = Nave.by("p720 m90").years(3).tells(1, 3, "pole", 0, 3);
        strengthsAre(x, 46, 15, 0, 15, 1);
        x.years(9).sits(0, 0).due(1, "year");
        strengthsAre(x, 46, 15, 0, 15, 1);
    }

    @Says(promise = 31, sentence = "NONE: none.")
    static void strengthsOfNone() {
        Nave x = Nave.by("p720 m10");
        int[][] none = {{0, 61, 1}, {0, 99, 1}, {0, 0, 0}, {20, 0, 0}, {20, 21, 1}, {0, 15, 1, 0, 15, 0}, {0, 15, 1, 3, 9, 0}};
        for (int[] places : none) {
            x.fill(2, places).tells(1, 7, "pole", 0, 1).refuses(NONE, "strengths", 0, 2).due(7, "asked");
        }
        strengthsAre(x, 1, 60, 20, 20, 1);
    }

    // ---- 32 kinds

    private static Nave kindsAre(Nave x, int want, int... places) {
        return x.fill(2, places).aside(want, "kinds", 0, 2);
    }

    @Says(promise = 32, sentence = "KINDS (bits) that it can be of by these.")
    static void kindsByOneMoreOrLess() {
        Nave x = Nave.by("p720 m10");
        kindsAre(x, 63);
        kindsAre(x, 63, 4, 8, 1);
        kindsAre(x, 29, 4, 9, 1);
        kindsAre(x, 29, 4, 11, 1);
        kindsAre(x, 21, 4, 12, 1);
        kindsAre(x, 20, 4, 13, 1);
        kindsAre(x, 20, 4, 16, 1);
        kindsAre(x, 16, 4, 17, 1);
        kindsAre(x, 16, 4, 30, 1);
        kindsAre(x, 0, 4, 31, 1);
        kindsAre(x, 63, 4, 31, 0);
        kindsAre(x, 47, 4, 30, 0);
        kindsAre(x, 34, 4, 9, 0);
        kindsAre(x, 0, 4, 8, 0);
        kindsAre(x, 0, 4, 0, 0);
        kindsAre(x, 63, 4, 0, 1);
    }

    @Says(promise = 32, sentence = "KINDS (bits) that it can be of by these.")
    static void kindsOfEachOneAlone() {
        Nave x = Nave.by("r720 m10");
        kindsAre(x, 1, 4, 12, 1, 4, 13, 0);
        kindsAre(x, 34, 4, 8, 1, 4, 9, 0);
        kindsAre(x, 8, 4, 11, 1, 4, 12, 0);
        kindsAre(x, 4, 4, 16, 1, 4, 17, 0);
        kindsAre(x, 16, 4, 30, 1, 4, 31, 0);
        kindsAre(Nave.by("s520 m10"), 33, 4, 12, 1, 4, 13, 0);
        kindsAre(Nave.by("s520 m10"), 2, 4, 8, 1, 4, 9, 0);
        kindsAre(Nave.by("s620 m10"), 34, 4, 8, 1, 4, 9, 0);
        kindsAre(Nave.by("p720 m10").years(5), 21, 4, 12, 1);
    }

    // ---- 33 test

    private static Nave testIs(Nave x, int k, int want, int part, int... places) {
        x.fill(2, places);
        long digest = x.call("digest");
        return x.tells(want, part, "test", k, 2).due(digest, "digest");
    }

    @Says(promise = 33, sentence = LOAD_TO_TRY)
    static void testWithWearAsItIs() {
        Nave x = Nave.by("p720 k520 s160 m10");
        testIs(x, 0, 16, 5);
        testIs(x, 2, 56, 5);
        testIs(x, 0, 21, 2, 4, 12, 1);
        x.years(4);
        testIs(x, 0, 12, 3);
        testIs(x, 1, 12, 4);
        testIs(x, 0, 13, 2, 4, 12, 1);
        testIs(x, 0, 9, 2, 4, 16, 0);
    }

    @Says(promise = 33, sentence = LOAD_TO_TRY)
    static void testTheFirstOfLikeLoads() {
        Nave x = Nave.by("p720 p160 p100 m10");
        testIs(x, 0, 0, 1, 4, 17, 1);
        testIs(x, 0, 0, 2, 4, 8, 1, 4, 9, 0);
        testIs(x, 1, 61, 4, 0, 56, 1);
        testIs(x, 1, 0, 1, 0, 62, 1);
        testIs(x, 2, 1, 5);
        testIs(x, 2, 0, 5, 0, 1, 0);
    }

    @Says(promise = 33, sentence = "NONE: there is no KIND.")
    static void testOfNoKind() {
        Nave x = Nave.by("p720 m10");
        for (int[] places : new int[][] {{4, 31, 1}, {4, 8, 0}, {0, 0, 0}, {0, 99, 1}}) {
            x.fill(2, places).tells(1, 7, "pole", 0, 1).refuses(NONE, "test", 0, 2).due(7, "asked");
        }
        testIs(x, 0, 0, 1, 4, 30, 1);
    }

    // ---- what the three calls refuse

    private static void refuseRows(String call) {
        for (int k : new int[] {0, 1, 2}) {
            Nave x = Nave.by("p720 r720 m10").fill(0, WELL).fill(5, WELL).tells(1, 7, "pole", 0, 1);
            for (int r : outside(0, 5)) {
                x.refuses(BAD, call, k, r);
            }
        }
        new Nave().fill(0, WELL).refuses(BAD, call, 0, 0).refuses(BAD, call, 0, 6).refuses(BAD, call, 0, 1);
    }

    private static void refusePoles(String call) {
        for (int many = 1; many <= 4; many++) {
            Nave x = Nave.by("l720".repeat(many) + "m10").fill(0, WELL).tells(1, 7, "pole", 0, 1);
            for (int k : outside(0, many - 1)) {
                x.refuses(BAD, call, k, 0).refuses(BAD, call, k, 3);
            }
            Check.due(call + " of the last pole is refused", x.call(call, many - 1, 0) < 0 ? 1 : 0, 0);
        }
    }

    private static void findNothing(String call) {
        Nave x = Nave.by("p720 r720 m10").finds(NOTHING, call, 0, 0).finds(NOTHING, call, 1, 5).fill(0, WELL);
        Check.due(call + " by a ROW that is there is refused", x.call(call, 0, 0) < 0 ? 1 : 0, 0);
        x.due(1, "tear", 0).finds(NOTHING, call, 0, 0);
    }

    private static void findSize(String call) {
        Nave x = Nave.by("p720 m10");
        for (int n : new int[] {1, 2, 4, 5, 38, 40}) {
            x.due(n, "row", 2, n).finds(SIZE, call, 0, 2);
        }
        for (int n : new int[] {0, 3, 6}) {
            int finding = (int) x.due(n, "row", 2, n).call("finding");
            x.call(call, 0, 2);
            x.due(6, "findings", SIZE).due(finding, "finding");
        }
    }

    private static void findUnlike(String call) {
        int[] most = {20, 99, 1};
        for (int place = 0; place < 3; place++) {
            for (int ahead : new int[] {0, 1}) {
                Nave x = Nave.by("p720 m10");
                for (int v : outside(0, most[place])) {
                    int[] places = new int[3 * ahead + 3];
                    places[3 * ahead + place] = v;
                    x.fill(2, places).finds(UNLIKE, call, 0, 2);
                }
            }
        }
    }

    private static void takesTheEnds(String call) {
        int[] most = {20, 99, 1};
        for (int place = 0; place < 3; place++) {
            Nave x = Nave.by("p720 m10");
            for (int v : ends(0, most[place])) {
                int[] places = new int[6];
                places[3 + place] = v;
                x.fill(2, places).call(call, 0, 2);
                x.due(0, "finding").fill(2, places[3], places[4], places[5]).call(call, 0, 2);
                x.due(0, "finding");
            }
        }
    }

    private static void refusedByTheFirst(String call) {
        Nave x = Nave.by("p720 m10").refuses(BAD, call, 1, 0).refuses(BAD, call, 0, 6).finds(NOTHING, call, 0, 0);
        x.fill(0, 21, 5).refuses(BAD, call, 1, 0).finds(SIZE, call, 0, 0).fill(0, 4, 5, 2, -1).finds(SIZE, call, 0, 0);
        x.fill(0, 4, 5, 2).refuses(BAD, call, 1, 0).finds(UNLIKE, call, 0, 0).due(1, "tear", 0).finds(NOTHING, call, 0, 0);
        new Nave().refuses(BAD, call, 0, 0).fill(0, 21, 5).refuses(BAD, call, 0, 0);
    }

    @Says(promise = 31, sentence = "BAD;")
    static void strengthsByARowThatThereIsNot() {
        refuseRows("strengths");
    }

    @Says(promise = 31, sentence = "BAD;")
    static void strengthsOfAPoleThatThereIsNot() {
        refusePoles("strengths");
    }

    @Says(promise = 31, sentence = "NOTHING;")
    static void strengthsByARowThatIsMissing() {
        findNothing("strengths");
    }

    @Says(promise = 31, sentence = "SIZE: not by triples (a ROW without places is well);")
    static void strengthsNotByTriples() {
        findSize("strengths");
        strengthsAre(Nave.by("p720 m10"), 61, 0);
    }

    @Says(promise = 31, sentence = "UNLIKE.")
    static void strengthsByNumbersThatAreNone() {
        findUnlike("strengths");
        takesTheEnds("strengths");
    }

    @Says(promise = 31, sentence = "(In this order.)")
    static void strengthsRefusedByTheFirst() {
        refusedByTheFirst("strengths");
    }

    @Says(promise = 32, sentence = "BAD;")
    static void kindsByARowThatThereIsNot() {
        refuseRows("kinds");
    }

    @Says(promise = 32, sentence = "BAD;")
    static void kindsOfAPoleThatThereIsNot() {
        refusePoles("kinds");
    }

    @Says(promise = 32, sentence = "NOTHING;")
    static void kindsByARowThatIsMissing() {
        findNothing("kinds");
    }

    @Says(promise = 32, sentence = "SIZE;")
    static void kindsNotByTriples() {
        findSize("kinds");
        kindsAre(Nave.by("p720 m10"), 63);
    }

    @Says(promise = 32, sentence = "UNLIKE.")
    static void kindsByNumbersThatAreNone() {
        findUnlike("kinds");
        takesTheEnds("kinds");
    }

    @Says(promise = 32, sentence = "(In this order.)")
    static void kindsRefusedByTheFirst() {
        refusedByTheFirst("kinds");
    }

    @Says(promise = 33, sentence = "BAD;")
    static void testByARowThatThereIsNot() {
        refuseRows("test");
    }

    @Says(promise = 33, sentence = "BAD;")
    static void testOfAPoleThatThereIsNot() {
        refusePoles("test");
    }

    @Says(promise = 33, sentence = "NOTHING;")
    static void testByARowThatIsMissing() {
        findNothing("test");
    }

    @Says(promise = 33, sentence = "SIZE;")
    static void testNotByTriples() {
        findSize("test");
        testIs(Nave.by("p720 m10"), 0, 16, 5);
    }

    @Says(promise = 33, sentence = "UNLIKE.")
    static void testByNumbersThatAreNone() {
        findUnlike("test");
        takesTheEnds("test");
    }

    @Says(promise = 33, sentence = "(In this order.)")
    static void testRefusedByTheFirst() {
        refusedByTheFirst("test");
    }

    private TrialTests() {
    }
}
