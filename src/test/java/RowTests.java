/** Promises 1 to 7: a new object, rows. */
final class RowTests extends Tests {

    @Says(promise = 1, sentence = "No ROWS, TEXTS, POLES, PEOPLE.")
    static void newObjectHasNothing() {
        Nave x = new Nave();
        for (int what = 0; what <= 11; what++) {
            x.aside(0, "count", what);
        }
        for (int r = 0; r <= 5; r++) {
            x.finds(NOTHING, "at", r, 0);
        }
        for (int t = 0; t <= 3; t++) {
            x.finds(NOTHING, "fault", t);
        }
        x.refuses(BAD, "pole", 0, 0).refuses(BAD, "one", 0, 0).refuses(STATE, "holds");
    }

    @Says(promise = 1, sentence = "No ROWS, TEXTS, POLES, PEOPLE.")
    static void newObjectIsNoneThatWasUsed() {
        long unused = new Nave().call("digest");
        Nave.by("p160m19").fill(0, 1, 2).stones(3).call("keep", 0);
        new Nave().due(unused, "digest");
    }

    @Says(promise = 2, sentence = "A ROW is there with n ints 0: n.")
    static void rowOfNoneToForty() {
        for (int r = 0; r <= 5; r++) {
            Nave x = new Nave();
            x.due(0, "row", r, 0).rowIs(r).due(1, "row", r, 1).rowIs(r, 0);
            x.due(39, "row", r, 39).rowIs(r, new int[39]);
            x.due(40, "row", r, 40).rowIs(r, new int[40]);
            x.due(1, "count", 8);
        }
    }

    @Says(promise = 2, sentence = "A ROW is there with n ints 0: n.")
    static void rowAnewIsNoughtAgain() {
        Nave x = new Nave().fill(1, 7, 8, 9).fill(0, 5).fill(2, 6);
        x.due(3, "row", 1, 3).rowIs(1, 0, 0, 0);
        x.fill(1, 7, 8, 9).due(2, "row", 1, 2).rowIs(1, 0, 0);
        x.fill(1, 7, 8, 9).due(0, "row", 1, 0).due(4, "row", 1, 4).rowIs(1, 0, 0, 0, 0);
        x.fill(1, 7).due(1, "tear", 1).due(1, "row", 1, 1).rowIs(1, 0);
        x.rowIs(0, 5).rowIs(2, 6).rowIsMissing(3);
    }

    @Says(promise = 2, sentence = "BAD: also n above 40")
    static void rowOfMoreThanForty() {
        Nave x = new Nave().fill(1, 4, 5);
        x.refuses(BAD, "row", 1, 41).refuses(BAD, "row", 3, 41).refuses(BAD, "row", 1, 42).refuses(BAD, "row", 1, 60);
        x.refuses(BAD, "row", 1, 61).refuses(BAD, "row", 1, 256).refuses(BAD, "row", 1, 65536 + 3);
        x.refuses(BAD, "row", 1, HIGHEST).refuses(BAD, "row", 1, HIGHEST - 1).refuses(BAD, "row", 6, 41);
        x.rowIsMissing(3).rowIs(1, 4, 5).due(40, "row", 1, 40);
    }

    @Says(promise = 2, sentence = "BAD: also n above 40")
    static void rowThatThereIsNot() {
        for (int n : new int[] {0, 40, -1}) {
            Nave x = new Nave().fill(0, 4, 5).fill(5, 6);
            for (int r : outside(0, 5)) {
                x.refuses(BAD, "row", r, n);
            }
        }
    }

    @Says(promise = 2, sentence = "SIZE: below 0")
    static void rowOfFewerThanNone() {
        Nave x = new Nave().fill(1, 4, 5);
        x.finds(SIZE, "row", 1, -1).finds(SIZE, "row", 3, -1).finds(SIZE, "row", 1, -2).finds(SIZE, "row", 1, NONE);
        x.finds(SIZE, "row", 1, LOWEST).finds(SIZE, "row", 1, LOWEST + 1).finds(SIZE, "row", 5, -256);
        x.rowIsMissing(3).rowIs(1, 4, 5).due(0, "row", 1, 0).rowIs(1);
    }

    @Says(promise = 3, sentence = "Place i of a ROW is v: what it was, told by asked(): 1.")
    static void layAnyInt() {
        Nave x = new Nave().due(3, "row", 2, 3);
        x.tells(1, 0, "lay", 2, 1, LOWEST).tells(1, LOWEST, "lay", 2, 1, LOWEST + 1);
        x.tells(1, LOWEST + 1, "lay", 2, 1, HIGHEST).tells(1, HIGHEST, "lay", 2, 1, HIGHEST - 1);
        x.tells(1, HIGHEST - 1, "lay", 2, 1, -1).tells(1, -1, "lay", 2, 1, 0).tells(1, 0, "lay", 2, 1, 1);
        x.tells(1, 1, "lay", 2, 1, 200).tells(1, 200, "lay", 2, 1, -40000).tells(1, -40000, "lay", 2, 1, 5);
        x.rowIs(2, 0, 5, 0);
    }

    @Says(promise = 3, sentence = "Place i of a ROW is v: what it was, told by asked(): 1.")
    static void layAtTheEndsOfARow() {
        Nave x = new Nave().due(40, "row", 0, 40).due(1, "row", 5, 1);
        x.tells(1, 0, "lay", 0, 0, 7).tells(1, 7, "lay", 0, 0, 8).tells(1, 0, "lay", 0, 39, 9).tells(1, 9, "lay", 0, 39, 4);
        x.tells(1, 0, "lay", 5, 0, 3).rowIs(5, 3);
        int[] want = new int[40];
        want[0] = 8;
        want[39] = 4;
        x.rowIs(0, want);
    }

    @Says(promise = 3, sentence = "BAD")
    static void layInARowThatThereIsNot() {
        Nave x = new Nave().fill(0, 4, 5).fill(5, 6);
        for (int r : outside(0, 5)) {
            x.refuses(BAD, "lay", r, 0, 1).refuses(BAD, "lay", r, -1, 1);
        }
    }

    @Says(promise = 3, sentence = "NOTHING")
    static void layInARowThatIsMissing() {
        Nave x = new Nave().fill(1, 4);
        x.finds(NOTHING, "lay", 0, 0, 1).finds(NOTHING, "lay", 0, -1, 1).finds(NOTHING, "lay", 0, 40, 1);
        x.finds(NOTHING, "lay", 5, 0, 1).tells(1, 4, "lay", 1, 0, 1).due(1, "tear", 1).finds(NOTHING, "lay", 1, 0, 1);
        x.due(0, "row", 1, 0).finds(BEYOND, "lay", 1, 0, 1);
    }

    @Says(promise = 3, sentence = "BEYOND")
    static void layBeyondARow() {
        for (int n : new int[] {0, 1, 3, 40}) {
            Nave x = new Nave().due(n, "row", 2, n);
            for (int i : outside(0, n - 1)) {
                x.finds(BEYOND, "lay", 2, i, 1);
            }
            x.rowIs(2, new int[n]);
        }
    }

    @Says(promise = 4, sentence = "Place i of a ROW, told by asked(): 1.")
    static void atTheEndsOfARow() {
        Nave x = new Nave().fill(0, -5).fill(5, HIGHEST, 0, LOWEST).due(40, "row", 3, 40).due(1, "lay", 3, 39, 6);
        long digest = x.call("digest");
        x.tells(1, -5, "at", 0, 0).tells(1, HIGHEST, "at", 5, 0).tells(1, 0, "at", 5, 1).tells(1, LOWEST, "at", 5, 2);
        x.tells(1, 0, "at", 3, 0).tells(1, 0, "at", 3, 38).tells(1, 6, "at", 3, 39).due(digest, "digest");
    }

    @Says(promise = 4, sentence = "BAD")
    static void atOfARowThatThereIsNot() {
        Nave x = new Nave().fill(0, 4, 5).fill(5, 6).tells(1, 5, "at", 0, 1);
        for (int r : outside(0, 5)) {
            x.refuses(BAD, "at", r, 0).refuses(BAD, "at", r, -1);
        }
    }

    @Says(promise = 4, sentence = "NOTHING")
    static void atOfARowThatIsMissing() {
        Nave x = new Nave().fill(1, 4);
        x.finds(NOTHING, "at", 0, 0).finds(NOTHING, "at", 0, -1).finds(NOTHING, "at", 0, HIGHEST);
        x.finds(NOTHING, "at", 5, 0).tells(1, 4, "at", 1, 0).due(1, "tear", 1).finds(NOTHING, "at", 1, 0);
        x.due(0, "row", 1, 0).finds(BEYOND, "at", 1, 0);
    }

    @Says(promise = 4, sentence = "BEYOND")
    static void atBeyondARow() {
        for (int n : new int[] {0, 1, 3, 40}) {
            Nave x = new Nave().due(n, "row", 2, n);
            for (int i : outside(0, n - 1)) {
                x.finds(BEYOND, "at", 2, i);
            }
        }
    }

    @Says(promise = 5, sentence = "A ROW is missing: 1.")
    static void tearOne() {
        Nave x = new Nave().fill(0, 1, 2).fill(5, 3).due(0, "row", 1, 0).due(40, "row", 2, 40).due(4, "count", 8);
        x.due(1, "tear", 0).rowIsMissing(0).rowIs(5, 3).rowIs(1).due(3, "count", 8);
        x.due(1, "tear", 5).rowIsMissing(5).due(2, "count", 8);
        x.due(1, "tear", 1).rowIsMissing(1).due(1, "count", 8);
        x.due(1, "tear", 2).rowIsMissing(2).due(0, "count", 8);
    }

    @Says(promise = 5, sentence = "BAD")
    static void tearARowThatThereIsNot() {
        Nave x = new Nave();
        for (int r = 0; r <= 5; r++) {
            x.fill(r, r);
        }
        for (int r : outside(0, 5)) {
            x.refuses(BAD, "tear", r);
        }
    }

    @Says(promise = 5, sentence = "NOTHING")
    static void tearARowThatIsMissing() {
        Nave x = new Nave().fill(1, 4);
        x.finds(NOTHING, "tear", 0).finds(NOTHING, "tear", 5).due(1, "tear", 1).finds(NOTHING, "tear", 1);
        x.finds(NOTHING, "tear", 1).due(0, "row", 1, 0).due(1, "tear", 1);
    }

    @Says(promise = 6, sentence = "n places of a ROW, from one on, come to those of another one (perhaps itself) from one on, "
        + "as if taken ahead: 1.")
    static void copyToAnother() {
        Nave x = new Nave().fill(0, 1, 2, 3, 4, 5).fill(1, 9, 8, 7);
        x.due(1, "copy", 0, 3, 1, 1, 2).rowIs(1, 9, 4, 5).rowIs(0, 1, 2, 3, 4, 5);
        x.due(1, "copy", 0, 0, 1, 0, 1).rowIs(1, 1, 4, 5).due(1, "copy", 0, 1, 1, 0, 3).rowIs(1, 2, 3, 4);
        x.due(1, "copy", 1, 0, 0, 2, 3).rowIs(0, 1, 2, 2, 3, 4).rowIs(1, 2, 3, 4);
        int[] forty = new int[40];
        Nave y = new Nave().due(40, "row", 4, 40).due(40, "row", 5, 40);
        for (int i = 0; i < 40; i++) {
            forty[i] = 100 + i;
            y.due(1, "lay", 4, i, forty[i]);
        }
        y.due(1, "copy", 4, 0, 5, 0, 40).rowIs(5, forty);
    }

    @Says(promise = 6, sentence = "n places of a ROW, from one on, come to those of another one (perhaps itself) from one on, "
        + "as if taken ahead: 1.")
    static void copyToItself() {
        new Nave().fill(3, 1, 2, 3, 4, 5).due(1, "copy", 3, 0, 3, 1, 4).rowIs(3, 1, 1, 2, 3, 4);
        new Nave().fill(3, 1, 2, 3, 4, 5).due(1, "copy", 3, 1, 3, 0, 4).rowIs(3, 2, 3, 4, 5, 5);
        new Nave().fill(3, 1, 2, 3, 4, 5).due(1, "copy", 3, 0, 3, 2, 3).rowIs(3, 1, 2, 1, 2, 3);
        new Nave().fill(3, 1, 2, 3, 4, 5).due(1, "copy", 3, 2, 3, 0, 3).rowIs(3, 3, 4, 5, 4, 5);
        new Nave().fill(3, 1, 2, 3, 4, 5).aside(1, "copy", 3, 0, 3, 0, 5).rowIs(3, 1, 2, 3, 4, 5);
    }

    @Says(promise = 6, sentence = "BAD")
    static void copyOfARowThatThereIsNot() {
        for (int n : new int[] {1, -1}) {
            Nave x = new Nave().fill(0, 4, 5).fill(5, 6);
            for (int r : outside(0, 5)) {
                x.refuses(BAD, "copy", r, 0, 0, 0, n).refuses(BAD, "copy", 0, 0, r, 0, n).refuses(BAD, "copy", r, 0, r, 0, n);
            }
        }
    }

    @Says(promise = 6, sentence = "SIZE: n below 0")
    static void copyOfFewerThanNone() {
        Nave x = new Nave().fill(0, 4, 5).fill(5, 6);
        x.finds(SIZE, "copy", 0, 0, 5, 0, -1).finds(SIZE, "copy", 0, 1, 0, 1, -1).finds(SIZE, "copy", 0, 0, 5, 0, -2);
        x.finds(SIZE, "copy", 0, 0, 5, 0, LOWEST).finds(SIZE, "copy", 0, 0, 5, 0, LOWEST + 1);
        x.aside(1, "copy", 0, 0, 5, 0, 0).due(1, "copy", 0, 0, 5, 0, 1).rowIs(5, 4);
    }

    @Says(promise = 6, sentence = "NOTHING: either")
    static void copyOfARowThatIsMissing() {
        Nave x = new Nave().fill(0, 4, 5);
        for (int n : new int[] {0, 1, HIGHEST}) {
            x.finds(NOTHING, "copy", 5, 0, 0, 0, n).finds(NOTHING, "copy", 0, 0, 5, 0, n);
            x.finds(NOTHING, "copy", 1, 0, 1, 0, n).finds(NOTHING, "copy", 1, 0, 2, 0, n);
        }
        x.due(1, "row", 5, 1).due(1, "copy", 0, 0, 5, 0, 1).rowIs(5, 4);
    }

    @Says(promise = 6, sentence = "BEYOND: not so many there (also with n 0, if i, j is below 0, or above its size).")
    static void copyOfMoreThanThereAre() {
        int[][] beyond = {
            {0, 0, 1, 0, 4}, {0, 5, 1, 0, 1}, {0, 4, 1, 0, 2}, {0, 3, 1, 0, 3}, {0, 0, 1, 3, 1}, {0, 0, 1, 2, 2},
            {0, 0, 1, 1, 3}, {0, 0, 0, 0, 6}, {0, 0, 0, 1, 5}, {0, 1, 0, 0, 5}, {2, 0, 0, 0, 1}, {0, 0, 2, 0, 1},
            {0, -1, 1, 0, 1}, {0, 0, 1, -1, 1}, {0, -1, 1, 0, 2}, {0, -1, 0, -1, 5}, {0, 0, 0, 0, 41}, {0, 0, 3, 0, 6},
        };
        int[][] well = {{0, 2, 1, 0, 3}, {0, 4, 1, 2, 1}, {0, 0, 1, 0, 3}, {0, 0, 0, 0, 5}, {0, 3, 1, 1, 2}, {0, 4, 3, 39, 1}};
        for (int[] c : beyond) {
            threeRows().finds(BEYOND, "copy", c);
        }
        for (int[] c : well) {
            threeRows().due(1, "copy", c);
        }
    }

    @Says(promise = 6, sentence = "BEYOND: not so many there (also with n 0, if i, j is below 0, or above its size).")
    static void copyOfNone() {
        Nave x = threeRows();
        x.aside(1, "copy", 0, 0, 1, 0, 0).aside(1, "copy", 0, 5, 1, 3, 0).aside(1, "copy", 0, 4, 1, 2, 0);
        x.aside(1, "copy", 2, 0, 2, 0, 0).aside(1, "copy", 3, 40, 3, 40, 0);
        x.finds(BEYOND, "copy", 0, 6, 1, 0, 0).finds(BEYOND, "copy", 0, 0, 1, 4, 0).finds(BEYOND, "copy", 0, -1, 1, 0, 0);
        x.finds(BEYOND, "copy", 0, 0, 1, -1, 0).finds(BEYOND, "copy", 2, 1, 0, 0, 0).finds(BEYOND, "copy", 0, 0, 2, 1, 0);
        x.finds(BEYOND, "copy", 3, 41, 3, 0, 0).finds(BEYOND, "copy", 3, 0, 3, 41, 0);
        x.finds(BEYOND, "copy", 0, HIGHEST, 1, 0, 0).finds(BEYOND, "copy", 0, 0, 1, HIGHEST, 0);
        x.finds(BEYOND, "copy", 0, LOWEST, 1, 0, 0).finds(BEYOND, "copy", 0, 0, 1, LOWEST, 0);
    }

    @Says(promise = 6, sentence = "BEYOND: not so many there (also with n 0, if i, j is below 0, or above its size).")
    static void copyBeyondAllInts() {
        int[] wild = {HIGHEST, HIGHEST - 1, HIGHEST - 4, LOWEST, LOWEST + 1};
        for (int i : wild) {
            Nave x = threeRows();
            x.finds(BEYOND, "copy", 0, i, 1, 0, 1).finds(BEYOND, "copy", 0, 0, 1, i, 1).finds(BEYOND, "copy", 0, i, 1, i, 3);
            x.finds(BEYOND, "copy", 0, i, 1, 0, HIGHEST).finds(BEYOND, "copy", 0, 0, 1, i, HIGHEST);
            x.finds(BEYOND, "copy", 0, i, 1, i, HIGHEST).finds(BEYOND, "copy", 0, 5, 1, 3, HIGHEST);
            x.finds(BEYOND, "copy", 0, 1, 0, 1, HIGHEST).finds(BEYOND, "copy", 0, 0, 0, 0, HIGHEST);
        }
    }

    private static Nave threeRows() {
        return new Nave().fill(0, 1, 2, 3, 4, 5).fill(1, 9, 8, 7).due(0, "row", 2, 0).due(40, "row", 3, 40);
    }

    @Says(promise = 6, sentence = "(In this order.)")
    static void copyRefusedByTheFirst() {
        Nave x = threeRows();
        x.refuses(BAD, "copy", 6, 0, 0, 0, -1).refuses(BAD, "copy", 0, 0, 6, 0, -1).refuses(BAD, "copy", -1, -1, 4, 0, 1);
        x.refuses(BAD, "copy", 4, -1, -1, 0, 1).refuses(BAD, "copy", 6, 9, 0, 9, 0);
        x.finds(SIZE, "copy", 4, 0, 0, 0, -1).finds(SIZE, "copy", 0, 0, 4, 0, -1).finds(SIZE, "copy", 0, 9, 1, -9, -1);
        x.finds(SIZE, "copy", 4, -1, 5, -1, LOWEST);
        x.finds(NOTHING, "copy", 4, -1, 0, 9, 1).finds(NOTHING, "copy", 0, 9, 4, -1, 0).finds(NOTHING, "copy", 0, 6, 5, 0, 99);
        x.finds(BEYOND, "copy", 0, 6, 0, 0, 99);
    }

    @Says(promise = 7, sentence = "The mean of a ROW's ints, cut, told by asked(): 1.")
    static void meanIsCut() {
        Nave x = new Nave();
        meanOf(x, 4, 4);
        meanOf(x, 1, 1, 2);
        meanOf(x, 2, 2, 3, 3);
        meanOf(x, 3, 3, 3, 3);
        meanOf(x, 0, 1, 0, 1, 0);
        meanOf(x, 0, -1, 0);
        meanOf(x, -1, -1, -1, -1);
        meanOf(x, -1, -1, -2, -2);
        meanOf(x, -3, 7, -14);
        meanOf(x, -4, 7, -15);
    }

    @Says(promise = 7, sentence = "The mean of a ROW's ints, cut, told by asked(): 1.")
    static void meanOfTheGreatestAndLeast() {
        Nave x = new Nave();
        meanOf(x, HIGHEST, HIGHEST);
        meanOf(x, LOWEST, LOWEST);
        meanOf(x, HIGHEST, HIGHEST, HIGHEST, HIGHEST);
        meanOf(x, HIGHEST - 1, HIGHEST, HIGHEST, HIGHEST - 1);
        meanOf(x, LOWEST, LOWEST, LOWEST, LOWEST);
        meanOf(x, LOWEST + 1, LOWEST, LOWEST, LOWEST + 1);
        meanOf(x, 0, LOWEST, HIGHEST);
        meanOfForty(HIGHEST);
        meanOfForty(LOWEST);
    }

    private static void meanOf(Nave x, int want, int... places) {
        long digest = x.fill(5, places).call("digest");
        x.tells(1, want, "mean", 5).due(digest, "digest");
    }

    private static void meanOfForty(int v) {
        Nave x = new Nave().due(40, "row", 0, 40);
        for (int i = 0; i < 40; i++) {
            x.due(1, "lay", 0, i, v);
        }
        x.tells(1, v, "mean", 0);
    }

    @Says(promise = 7, sentence = "BAD")
    static void meanOfARowThatThereIsNot() {
        Nave x = new Nave().fill(0, 4, 5).fill(5, 6).tells(1, 4, "mean", 0).tells(1, 6, "mean", 5);
        for (int r : outside(0, 5)) {
            x.refuses(BAD, "mean", r);
        }
    }

    @Says(promise = 7, sentence = "NOTHING")
    static void meanOfARowThatIsMissing() {
        Nave x = new Nave().fill(1, 4).finds(NOTHING, "mean", 0).finds(NOTHING, "mean", 5);
        x.tells(1, 4, "mean", 1).due(1, "tear", 1).finds(NOTHING, "mean", 1).due(0, "row", 1, 0).finds(NOUGHT, "mean", 1);
    }

    @Says(promise = 7, sentence = "NOUGHT")
    static void meanOfNoPlaces() {
        Nave x = new Nave().fill(1, 4).tells(1, 4, "mean", 1).due(0, "row", 1, 0).finds(NOUGHT, "mean", 1);
        x.finds(NOUGHT, "mean", 1).due(1, "row", 1, 1).tells(1, 0, "mean", 1);
        x.due(1, "tear", 1).finds(NOTHING, "mean", 1);
    }

    private RowTests() {
    }
}
