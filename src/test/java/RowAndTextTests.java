/** Promises 1 to 9: rows and texts. */
final class RowAndTextTests {
    private static final int BAD = PoleNave.BAD;
    private static final int LOWEST = Check.LOWEST, HIGHEST = Check.HIGHEST;

    static void promise01NewObject() {
        PoleNave x = new PoleNave();
        for (int what = 0; what <= 11; what++) {
            Check.due("count(" + what + ") of a new object", x.count(what), 0);
        }
        for (int r = 0; r < 6; r++) {
            Check.isMissing(x, r);
        }
        for (int t = 0; t < 4; t++) {
            final int text = t;
            Check.finds(x, "fault(" + t + ")", () -> x.fault(text), Check.NOTHING);
        }
        for (int k = 0; k < 3; k++) {
            final int place = k;
            Check.finds(x, "on(" + k + ")", () -> x.on(place), Check.NOTHING);
        }
        PoleNave y = Check.naveBy("p160m19");
        Check.fill(y, 0, 1, 2);
        y.stone();
        Check.due("digest() of two new objects", new PoleNave().digest(), new PoleNave().digest());
        Check.due("digest() of a new object beside a used one", x.digest(), new PoleNave().digest());
    }

    static void promise02Row() {
        PoleNave x = new PoleNave();
        Check.due("row(0, 0)", x.row(0, 0), 0);
        Check.holds(x, 0);
        Check.due("row(5, 40)", x.row(5, 40), 40);
        Check.holds(x, 5, new int[40]);
        Check.due("count(8)", x.count(8), 2);
        Check.fill(x, 1, 7, 8, 9);
        Check.due("row(1, 2) anew", x.row(1, 2), 2);
        Check.holds(x, 1, 0, 0);
        Check.due("row(1, 4) anew", x.row(1, 4), 4);
        Check.holds(x, 1, 0, 0, 0, 0);
        x.lay(1, 3, 5);
        Check.refuses(x, "row(-1, 0)", () -> x.row(-1, 0), BAD);
        Check.refuses(x, "row(6, 0)", () -> x.row(6, 0), BAD);
        Check.refuses(x, "row(lowest, 0)", () -> x.row(LOWEST, 0), BAD);
        Check.refuses(x, "row(highest, 0)", () -> x.row(HIGHEST, 0), BAD);
        Check.refuses(x, "row(1, 41)", () -> x.row(1, 41), BAD);
        Check.refuses(x, "row(1, highest)", () -> x.row(1, HIGHEST), BAD);
        Check.refuses(x, "row(6, -1)", () -> x.row(6, -1), BAD);
        Check.refuses(x, "row(-1, -1)", () -> x.row(-1, -1), BAD);
        Check.finds(x, "row(1, -1)", () -> x.row(1, -1), Check.SIZE);
        Check.finds(x, "row(1, lowest)", () -> x.row(1, LOWEST), Check.SIZE);
        Check.finds(x, "row(4, -1)", () -> x.row(4, -1), Check.SIZE);
        Check.isMissing(x, 4);
        Check.holds(x, 1, 0, 0, 0, 5);
    }

    static void promise03Lay() {
        PoleNave x = new PoleNave();
        x.row(0, 3);
        x.row(5, 40);
        Check.tells(x, "lay(0, 0, 7)", () -> x.lay(0, 0, 7), 1, 0);
        Check.tells(x, "lay(0, 0, lowest)", () -> x.lay(0, 0, LOWEST), 1, 7);
        Check.tells(x, "lay(0, 0, highest)", () -> x.lay(0, 0, HIGHEST), 1, LOWEST);
        Check.tells(x, "lay(0, 2, -1)", () -> x.lay(0, 2, -1), 1, 0);
        Check.tells(x, "lay(0, 2, 300)", () -> x.lay(0, 2, 300), 1, -1);
        Check.tells(x, "lay(5, 39, 4)", () -> x.lay(5, 39, 4), 1, 0);
        Check.holds(x, 0, HIGHEST, 0, 300);
        Check.tells(x, "at(5, 39)", () -> x.at(5, 39), 1, 4);
        Check.refuses(x, "lay(-1, 0, 1)", () -> x.lay(-1, 0, 1), BAD);
        Check.refuses(x, "lay(6, 0, 1)", () -> x.lay(6, 0, 1), BAD);
        Check.refuses(x, "lay(6, 9, 1)", () -> x.lay(6, 9, 1), BAD);
        Check.finds(x, "lay(1, 0, 1)", () -> x.lay(1, 0, 1), Check.NOTHING);
        Check.finds(x, "lay(1, -1, 1)", () -> x.lay(1, -1, 1), Check.NOTHING);
        Check.finds(x, "lay(0, 3, 1)", () -> x.lay(0, 3, 1), Check.BEYOND);
        Check.finds(x, "lay(0, -1, 1)", () -> x.lay(0, -1, 1), Check.BEYOND);
        Check.finds(x, "lay(5, 40, 1)", () -> x.lay(5, 40, 1), Check.BEYOND);
        Check.finds(x, "lay(0, highest, 1)", () -> x.lay(0, HIGHEST, 1), Check.BEYOND);
        Check.finds(x, "lay(0, lowest, 1)", () -> x.lay(0, LOWEST, 1), Check.BEYOND);
        x.row(2, 0);
        Check.finds(x, "lay(2, 0, 1)", () -> x.lay(2, 0, 1), Check.BEYOND);
    }

    static void promise04At() {
        PoleNave x = new PoleNave();
        Check.fill(x, 3, -5, HIGHEST, LOWEST);
        Check.tells(x, "at(3, 0)", () -> x.at(3, 0), 1, -5);
        Check.tells(x, "at(3, 1)", () -> x.at(3, 1), 1, HIGHEST);
        Check.tells(x, "at(3, 2)", () -> x.at(3, 2), 1, LOWEST);
        long digest = x.digest();
        x.at(3, 1);
        Check.due("digest() behind at(3, 1)", x.digest(), digest);
        Check.refuses(x, "at(-1, 0)", () -> x.at(-1, 0), BAD);
        Check.refuses(x, "at(6, 0)", () -> x.at(6, 0), BAD);
        Check.finds(x, "at(0, 0)", () -> x.at(0, 0), Check.NOTHING);
        Check.finds(x, "at(0, 50)", () -> x.at(0, 50), Check.NOTHING);
        Check.finds(x, "at(3, 3)", () -> x.at(3, 3), Check.BEYOND);
        Check.finds(x, "at(3, -1)", () -> x.at(3, -1), Check.BEYOND);
        Check.finds(x, "at(3, highest)", () -> x.at(3, HIGHEST), Check.BEYOND);
        Check.finds(x, "at(3, lowest)", () -> x.at(3, LOWEST), Check.BEYOND);
    }

    static void promise05Tear() {
        PoleNave x = new PoleNave();
        Check.fill(x, 0, 1, 2);
        Check.fill(x, 5, 3);
        Check.refuses(x, "tear(-1)", () -> x.tear(-1), BAD);
        Check.refuses(x, "tear(6)", () -> x.tear(6), BAD);
        Check.finds(x, "tear(1)", () -> x.tear(1), Check.NOTHING);
        Check.due("tear(0)", x.tear(0), 1);
        Check.isMissing(x, 0);
        Check.finds(x, "tear(0) again", () -> x.tear(0), Check.NOTHING);
        Check.holds(x, 5, 3);
        Check.due("count(8)", x.count(8), 1);
        Check.due("tear(5)", x.tear(5), 1);
        Check.due("count(8)", x.count(8), 0);
        x.row(0, 2);
        Check.holds(x, 0, 0, 0);
        x.row(1, 0);
        Check.due("tear(1) of no places", x.tear(1), 1);
    }

    static void promise06Copy() {
        PoleNave x = new PoleNave();
        Check.fill(x, 0, 1, 2, 3, 4, 5);
        Check.fill(x, 1, 9, 9, 9);
        Check.due("copy(0, 3, 1, 1, 2)", x.copy(0, 3, 1, 1, 2), 1);
        Check.holds(x, 1, 9, 4, 5);
        Check.holds(x, 0, 1, 2, 3, 4, 5);
        Check.due("copy(0, 0, 0, 1, 4)", x.copy(0, 0, 0, 1, 4), 1);
        Check.holds(x, 0, 1, 1, 2, 3, 4);
        Check.due("copy(0, 2, 0, 0, 3)", x.copy(0, 2, 0, 0, 3), 1);
        Check.holds(x, 0, 2, 3, 4, 3, 4);
        Check.due("copy(0, 0, 0, 0, 5)", x.copy(0, 0, 0, 0, 5), 1);
        Check.holds(x, 0, 2, 3, 4, 3, 4);
        x.row(2, 0);
        Check.aside(x, "copy(0, 5, 1, 3, 0)", () -> x.copy(0, 5, 1, 3, 0), 1);
        Check.aside(x, "copy(2, 0, 2, 0, 0)", () -> x.copy(2, 0, 2, 0, 0), 1);
        Check.refuses(x, "copy(-1, 0, 1, 0, 1)", () -> x.copy(-1, 0, 1, 0, 1), BAD);
        Check.refuses(x, "copy(6, 0, 1, 0, -1)", () -> x.copy(6, 0, 1, 0, -1), BAD);
        Check.refuses(x, "copy(0, 0, 6, 0, -1)", () -> x.copy(0, 0, 6, 0, -1), BAD);
        Check.refuses(x, "copy(0, 0, -1, 0, 1)", () -> x.copy(0, 0, -1, 0, 1), BAD);
        Check.finds(x, "copy(0, 0, 1, 0, -1)", () -> x.copy(0, 0, 1, 0, -1), Check.SIZE);
        Check.finds(x, "copy(5, 0, 1, 0, -1)", () -> x.copy(5, 0, 1, 0, -1), Check.SIZE);
        Check.finds(x, "copy(0, 9, 1, 0, lowest)", () -> x.copy(0, 9, 1, 0, LOWEST), Check.SIZE);
        Check.finds(x, "copy(5, 0, 1, 0, 1)", () -> x.copy(5, 0, 1, 0, 1), Check.NOTHING);
        Check.finds(x, "copy(0, 0, 5, 0, 0)", () -> x.copy(0, 0, 5, 0, 0), Check.NOTHING);
        Check.finds(x, "copy(0, -1, 5, 0, 1)", () -> x.copy(0, -1, 5, 0, 1), Check.NOTHING);
        copyBeyond(x);
    }

    private static void copyBeyond(PoleNave x) {
        int[][] beyond = {
            {0, 0, 1, 0, 4}, {0, 5, 1, 0, 1}, {0, 4, 1, 0, 2}, {0, 0, 1, 3, 1}, {0, 0, 1, 2, 2}, {0, -1, 1, 0, 1},
            {0, 0, 1, -1, 1}, {0, -1, 1, 0, 0}, {0, 0, 1, -1, 0}, {0, 6, 1, 0, 0}, {0, 0, 1, 4, 0}, {2, 0, 0, 0, 1},
            {0, HIGHEST, 1, 0, 1}, {0, 1, 1, 0, HIGHEST}, {0, HIGHEST, 1, HIGHEST, HIGHEST}, {0, LOWEST, 1, 0, 1},
            {0, 0, 1, LOWEST, HIGHEST}, {0, 0, 1, HIGHEST, 1},
        };
        for (int[] c : beyond) {
            Check.finds(x, "copy(" + c[0] + ", " + c[1] + ", " + c[2] + ", " + c[3] + ", " + c[4] + ")",
                () -> x.copy(c[0], c[1], c[2], c[3], c[4]), Check.BEYOND);
        }
    }

    static void promise07Mean() {
        PoleNave x = new PoleNave();
        meanOf(x, 4, 4);
        meanOf(x, 1, 1, 2);
        meanOf(x, 2, 3, 3, 2);
        meanOf(x, -3, 7, -14);
        meanOf(x, 0, -1, 0);
        meanOf(x, HIGHEST, HIGHEST, HIGHEST, HIGHEST);
        meanOf(x, LOWEST, LOWEST, LOWEST);
        Check.refuses(x, "mean(-1)", () -> x.mean(-1), BAD);
        Check.refuses(x, "mean(6)", () -> x.mean(6), BAD);
        Check.finds(x, "mean(0)", () -> x.mean(0), Check.NOTHING);
        x.row(0, 0);
        Check.finds(x, "mean(0) of no places", () -> x.mean(0), Check.NOUGHT);
    }

    private static void meanOf(PoleNave x, int want, int... places) {
        Check.fill(x, 5, places);
        long digest = x.digest();
        Check.tells(x, "mean(5) of " + places.length, () -> x.mean(5), 1, want);
        Check.due("digest() behind mean(5)", x.digest(), digest);
    }

    static void promise08Text() {
        PoleNave x = new PoleNave();
        Check.due("text(0, 0)", x.text(0, 0), 0);
        Check.finds(x, "put(0, 0, 1)", () -> x.put(0, 0, 1), Check.BEYOND);
        Check.due("text(3, 60)", x.text(3, 60), 60);
        for (int i = 0; i < 60; i++) {
            Check.due("put(3, " + i + ", 112)", x.put(3, i, 112), 1032);
        }
        Check.due("count(9)", x.count(9), 2);
        Check.due("text(3, 2) anew", x.text(3, 2), 2);
        Check.due("put(3, 1, 109)", x.put(3, 1, 109), 1032);
        Check.finds(x, "put(3, 2, 1)", () -> x.put(3, 2, 1), Check.BEYOND);
        Check.refuses(x, "text(-1, 0)", () -> x.text(-1, 0), BAD);
        Check.refuses(x, "text(4, 0)", () -> x.text(4, 0), BAD);
        Check.refuses(x, "text(4, -1)", () -> x.text(4, -1), BAD);
        Check.refuses(x, "text(3, 61)", () -> x.text(3, 61), BAD);
        Check.refuses(x, "text(3, highest)", () -> x.text(3, HIGHEST), BAD);
        Check.finds(x, "text(3, -1)", () -> x.text(3, -1), Check.SIZE);
        Check.finds(x, "text(1, lowest)", () -> x.text(1, LOWEST), Check.SIZE);
        Check.due("count(9)", x.count(9), 2);
        Check.due("put(3, 1, 0)", x.put(3, 1, 0), 1109);
    }

    static void promise09Put() {
        PoleNave x = new PoleNave();
        x.text(2, 3);
        int[] put = {0, 127, 128, 200, 255, 256, -1, -128, -129, 300, HIGHEST, LOWEST, 65};
        int[] cut = {0, 127, -128, -56, -1, 0, -1, -128, 127, 44, -1, 0, 65};
        int was = 32;
        for (int j = 0; j < put.length; j++) {
            Check.due("put(2, 2, " + put[j] + ")", x.put(2, 2, put[j]), 1000 + was);
            was = cut[j];
        }
        Check.due("put(2, 0, 1)", x.put(2, 0, 1), 1032);
        Check.due("asked() behind put()", x.asked(), 0);
        Check.refuses(x, "put(-1, 0, 1)", () -> x.put(-1, 0, 1), BAD);
        Check.refuses(x, "put(4, 0, 1)", () -> x.put(4, 0, 1), BAD);
        Check.finds(x, "put(0, 0, 1)", () -> x.put(0, 0, 1), Check.NOTHING);
        Check.finds(x, "put(0, -1, 1)", () -> x.put(0, -1, 1), Check.NOTHING);
        Check.finds(x, "put(2, 3, 1)", () -> x.put(2, 3, 1), Check.BEYOND);
        Check.finds(x, "put(2, -1, 1)", () -> x.put(2, -1, 1), Check.BEYOND);
        Check.finds(x, "put(2, highest, 1)", () -> x.put(2, HIGHEST, 1), Check.BEYOND);
        Check.finds(x, "put(2, lowest, 1)", () -> x.put(2, LOWEST, 1), Check.BEYOND);
    }

    private RowAndTextTests() {
    }
}
