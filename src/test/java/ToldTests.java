/** Promises 38 to 44: what is told. */
final class ToldTests {
    private static final int BAD = PoleNave.BAD, NONE = PoleNave.NONE, MISSING = -1;
    private static final int LOWEST = Check.LOWEST, HIGHEST = Check.HIGHEST;

    static void promise38Asked() {
        PoleNave x = new PoleNave();
        Check.aside(x, "asked() at first", x::asked, 0);
        Check.fill(x, 0, 31, 8);
        Check.tells(x, "at(0, 0)", () -> x.at(0, 0), 1, 31);
        Check.write(x, 0, "p510 p510 m35 m46");
        x.nave(0);
        x.bears(0, 0);
        x.sit(0, 0);
        x.stone();
        x.keep(0);
        x.best(1);
        x.laces(2, 1);
        x.kinds(0, 5);
        x.gives(0);
        x.duel(2);
        x.odds(0, 1);
        x.mid(1);
        x.lots(2, 5);
        x.undo(1);
        x.digest();
        x.count(0);
        Check.aside(x, "asked() behind calls that don't tell by it", x::asked, 31);
        Check.tells(x, "lay(0, 1, 2)", () -> x.lay(0, 1, 2), 1, 8);
        Check.tells(x, "mean(0)", () -> x.mean(0), 1, 16);
        Check.poleTells(x, 1, 2, 10);
        Check.oneTells(x, 1, 0, 4);
        Check.tells(x, "holds()", x::holds, 3, 0);
        Check.tells(x, "fewest()", x::fewest, 2, 3);
        Check.tells(x, "later(0)", () -> x.later(0), 5, 0);
        Check.fill(x, 2, 1, 1);
        Check.tells(x, "seated(2)", () -> x.seated(2), 1, 10);
        Check.fill(x, 2, 0, 15, 1);
        Check.tells(x, "strengths(0, 2)", () -> x.strengths(0, 2), 46, 15);
        x.row(2, 0);
        Check.tells(x, "test(0, 2)", () -> x.test(0, 2), 6, 5);
        Check.refuses(x, "pole(2, 2)", () -> x.pole(2, 2), BAD);
        Check.fill(x, 2, 0, 0, 0);
        x.at(0, 0);
        Check.refuses(x, "strengths(0, 2) of none", () -> x.strengths(0, 2), NONE);
        Check.refuses(x, "test(0, 2) of no kind", () -> x.test(0, 2), NONE);
        x.nave(0);
        Check.aside(x, "asked() behind nave(0)", x::asked, 31);
    }

    static void promise39Upper() {
        PoleNave x = new PoleNave();
        Check.aside(x, "upper() at first", x::upper, 0);
        Check.write(x, 0, "p510 m35");
        x.nave(0);
        x.sit(0, 0);
        x.odds(0, 3);
        Check.aside(x, "upper() of odds(0, 3)", x::upper, 3);
        x.mid(2);
        Check.aside(x, "upper() of mid(2)", x::upper, 25);
        x.odds(1, 0);
        x.mid(13);
        x.nave(0);
        Check.aside(x, "upper() behind refusals, a nave anew", x::upper, 25);
        x.odds(0, 0);
        Check.aside(x, "upper() of nought", x::upper, 0);
    }

    static void promise40Lower() {
        PoleNave x = new PoleNave();
        Check.aside(x, "lower() at first", x::lower, 1);
        Check.write(x, 0, "p510 m35");
        x.nave(0);
        x.sit(0, 0);
        x.odds(0, 3);
        Check.aside(x, "lower() of odds(0, 3)", x::lower, 4);
        x.mid(2);
        Check.aside(x, "lower() of mid(2)", x::lower, 6);
        x.odds(1, 0);
        x.mid(-1);
        x.nave(0);
        Check.aside(x, "lower() behind refusals, a nave anew", x::lower, 6);
        x.mid(5);
        Check.aside(x, "lower() of nought", x::lower, 1);
    }

    static void promise41Count() {
        PoleNave x = Check.naveBy("l712 s712 p504 d512 m35 m47 m19");
        countsAre(x, 4, 3, 0, 0, 0, 0, 0, 0, 0, 1, 0, 3);
        x.sit(0, 0);
        x.sit(1, 2);
        x.sit(2, 3);
        x.stone();
        x.stone();
        x.year();
        Check.fill(x, 1, 5);
        x.row(4, 0);
        x.text(2, 0);
        x.text(3, 4);
        x.keep(0);
        x.keep(1);
        countsAre(x, 4, 3, 6, 1, 4, 5, 10, 2, 2, 3, 2, 3);
        x.tear(1);
        x.lace(1);
        x.down(0);
        countsAre(x, 4, 3, 8, 1, 4, 4, 5, 2, 1, 3, 2, 3);
        countsAre(Check.naveBy("p712 k712 r504 m35"), 3, 1, 0, 0, 0, 0, 0, 0, 0, 1, 0, 0);
        countsAre(Check.naveBy("k712 d712 m35"), 2, 1, 0, 0, 0, 0, 0, 0, 0, 1, 0, 1);
        PoleNave thrown = Check.naveBy("l100 m11");
        thrown.sit(0, 0);
        thrown.year();
        countsAre(thrown, 1, 1, 2, 1, 1, 0, 0, 0, 0, 1, 0, 1);
        Check.refuses(x, "count(-1)", () -> x.count(-1), BAD);
        Check.refuses(x, "count(12)", () -> x.count(12), BAD);
        Check.refuses(x, "count(highest)", () -> x.count(HIGHEST), BAD);
        Check.refuses(x, "count(lowest)", () -> x.count(LOWEST), BAD);
    }

    private static void countsAre(PoleNave x, int... want) {
        for (int what = 0; what < want.length; what++) {
            final int w = what;
            Check.aside(x, "count(" + w + ")", () -> x.count(w), want[w]);
        }
    }

    static void promise42Finding() {
        PoleNave x = new PoleNave();
        Check.aside(x, "finding() at first", x::finding, 0);
        x.tear(0);
        Check.aside(x, "finding() of NOTHING", x::finding, 1);
        x.row(0, 0);
        x.at(0, 0);
        Check.aside(x, "finding() of BEYOND", x::finding, 2);
        x.mean(0);
        Check.aside(x, "finding() of NOUGHT", x::finding, 4);
        x.row(0, -1);
        Check.aside(x, "finding() of SIZE", x::finding, 5);
        Check.write(x, 0, "p510 m35");
        x.nave(0);
        x.mark(0, 1);
        Check.aside(x, "finding() of UNLIKE", x::finding, 3);
        x.mark(0, 0);
        x.sit(0, 0);
        x.sit(0, 0);
        x.row(1, 2);
        Check.aside(x, "finding() behind other refusals", x::finding, 3);
    }

    static void promise43Findings() {
        PoleNave x = Check.naveBy("p510 m35");
        findingsAre(x, 0, 0, 0, 0, 0);
        x.tear(0);
        x.tear(1);
        x.fault(2);
        x.row(0, 0);
        x.at(0, 0);
        x.at(0, 1);
        x.mark(0, 1);
        x.mean(0);
        x.mean(0);
        x.text(0, -1);
        x.row(6, -1);
        x.on(0);
        findingsAre(x, 4, 2, 1, 2, 1);
        x.nave(0);
        findingsAre(x, 4, 2, 1, 2, 1);
        Check.refuses(x, "findings(0)", () -> x.findings(0), BAD);
        Check.refuses(x, "findings(6)", () -> x.findings(6), BAD);
        Check.refuses(x, "findings(-1)", () -> x.findings(-1), BAD);
        Check.refuses(x, "findings(highest)", () -> x.findings(HIGHEST), BAD);
        Check.refuses(x, "findings(lowest)", () -> x.findings(LOWEST), BAD);
    }

    private static void findingsAre(PoleNave x, int... want) {
        for (int f = 1; f <= want.length; f++) {
            final int finding = f;
            Check.aside(x, "findings(" + f + ")", () -> x.findings(finding), want[f - 1]);
        }
    }

    static void promise44Digest() {
        PoleNave empty = new PoleNave();
        long h = counted(empty, 17);
        for (int missing = 0; missing < 3 + 6 + 4; missing++) {
            h = 31 * h + MISSING;
        }
        Check.due("digest() of a new object", empty.digest(), h);
        PoleNave x = Check.naveBy("l712 p504 m35 m47");
        x.sit(0, 0);
        x.keep(1);
        x.sit(1, 1);
        x.year();
        x.stone();
        x.keep(2);
        x.lace(0);
        Check.fill(x, 0, -7, HIGHEST, LOWEST);
        x.row(5, 0);
        x.text(1, 2);
        x.put(1, 1, 200);
        x.odds(0, 3);
        long digest = digestOf(x, "l712 p504 m35 m47", MISSING, 1, 4);
        x.at(0, 0);
        Check.due("digest()", x.digest(), digest);
        Check.due("asked() behind digest()", x.asked(), -7);
        Check.due("upper() behind digest()", x.upper(), 3);
        Check.due("lower() behind digest()", x.lower(), 4);
        Check.due("digest() again", x.digest(), digest);
    }

    private static long counted(PoleNave x, long h) {
        for (int what = 0; what <= 11; what++) {
            h = 31 * h + x.count(what);
        }
        return h;
    }

    /** By the calls that tell, and by what this test has laid into rows and texts. */
    private static long digestOf(PoleNave x, String signs, int... kept) {
        long h = counted(x, 17);
        for (int k = 0; k < 2; k++) {
            for (int what = 0; what <= 7; what++) {
                x.pole(k, what);
                h = 31 * h + x.asked();
            }
        }
        for (int i = 0; i < 2; i++) {
            for (int what = 0; what <= 3; what++) {
                x.one(i, what);
                h = 31 * h + x.asked();
            }
        }
        int[][] rows = {kept, {3, -7, HIGHEST, LOWEST}, {MISSING}, {MISSING}, {MISSING}, {MISSING}, {0},
            {signs.length()}, signs.chars().toArray(), {2, 32, -56}, {MISSING}, {MISSING}};
        for (int[] row : rows) {
            for (int v : row) {
                h = 31 * h + v;
            }
        }
        return h;
    }

    private ToldTests() {
    }
}
