/** Promises 8 to 11: texts, and the nave that one tells. What a FAULT is, is tested with the terms (TextTerms). */
final class TextTests extends Tests {

    @Says(promise = 8, sentence = "A TEXT is there with n blanks: n.")
    static void textOfNoneToSixty() {
        for (int t = 0; t <= 3; t++) {
            for (int n : new int[] {0, 1, 59, 60}) {
                Nave x = new Nave().due(n, "text", t, n).due(1, "count", 9);
                blanks(x, t, n);
            }
        }
    }

    @Says(promise = 8, sentence = "A TEXT is there with n blanks: n.")
    static void textAnewIsBlankAgain() {
        Nave x = new Nave().write(3, "p160m19").write(1, "m19");
        blanks(x.due(7, "text", 3, 7), 3, 7);
        blanks(x.write(3, "p160m19").due(2, "text", 3, 2), 3, 2);
        blanks(x.write(3, "p160m19").due(0, "text", 3, 0).due(9, "text", 3, 9), 3, 9);
        x.due(1109, "put", 1, 0, 32).due(1049, "put", 1, 1, 32).due(1057, "put", 1, 2, 32);
    }

    private static void blanks(Nave x, int t, int n) {
        for (int i = 0; i < n; i++) {
            x.due(1032, "put", t, i, 32);
        }
        x.finds(BEYOND, "put", t, n, 32);
    }

    @Says(promise = 8, sentence = "BAD: also n above 60")
    static void textOfMoreThanSixty() {
        Nave x = new Nave().write(1, "m19");
        x.refuses(BAD, "text", 1, 61).refuses(BAD, "text", 3, 61).refuses(BAD, "text", 1, 62).refuses(BAD, "text", 1, 256);
        x.refuses(BAD, "text", 1, 65536 + 3).refuses(BAD, "text", 1, HIGHEST).refuses(BAD, "text", 1, HIGHEST - 1);
        x.refuses(BAD, "text", 4, 61).finds(NOTHING, "fault", 3).due(60, "text", 1, 60);
    }

    @Says(promise = 8, sentence = "BAD: also n above 60")
    static void textThatThereIsNot() {
        for (int n : new int[] {0, 60, -1}) {
            Nave x = new Nave().write(0, "p160m19").write(3, "m19");
            for (int t : outside(0, 3)) {
                x.refuses(BAD, "text", t, n);
            }
        }
    }

    @Says(promise = 8, sentence = "SIZE: below 0")
    static void textOfFewerThanNone() {
        Nave x = new Nave().write(1, "m19");
        x.finds(SIZE, "text", 1, -1).finds(SIZE, "text", 3, -1).finds(SIZE, "text", 1, -2).finds(SIZE, "text", 1, NONE);
        x.finds(SIZE, "text", 1, LOWEST).finds(SIZE, "text", 1, LOWEST + 1).finds(SIZE, "text", 0, -256);
        x.finds(NOTHING, "fault", 3).due(0, "text", 1, 0).due(0, "fault", 1);
    }

    @Says(promise = 9, sentence = "Byte i of a TEXT is v, cut to a byte (-128 .. 127): what it was, and 1000 more.")
    static void putIsCutToAByte() {
        int[] put = {
            0, 126, 127, 128, 129, 200, 254, 255, 256, 257, -1, -127, -128, -129, -255, -256, -257, 383, 384, 65536, -65537,
            HIGHEST, HIGHEST - 1, LOWEST, LOWEST + 1, 65,
        };
        int[] cut = {
            0, 126, 127, -128, -127, -56, -2, -1, 0, 1, -1, -127, -128, 127, 1, 0, -1, 127, -128, 0, -1,
            -1, -2, 0, 1, 65,
        };
        Nave x = new Nave().due(3, "text", 2, 3);
        int was = 32;
        for (int j = 0; j < put.length; j++) {
            x.due(1000 + was, "put", 2, 1, put[j]);
            was = cut[j];
        }
        x.due(1000 + was, "put", 2, 1, 0).due(1032, "put", 2, 0, 1).due(1032, "put", 2, 2, 1).due(0, "asked");
    }

    @Says(promise = 9, sentence = "Byte i of a TEXT is v, cut to a byte (-128 .. 127): what it was, and 1000 more.")
    static void putAtTheEndsOfAText() {
        Nave x = new Nave().due(60, "text", 0, 60).due(1, "text", 3, 1);
        x.due(1032, "put", 0, 0, 7).due(1007, "put", 0, 0, 8).due(1032, "put", 0, 59, 9).due(1009, "put", 0, 59, 4);
        x.due(1032, "put", 3, 0, -8).due(992, "put", 3, 0, -128).due(872, "put", 3, 0, 127).due(1127, "put", 3, 0, 0);
        x.due(1032, "put", 0, 1, 1).due(1032, "put", 0, 58, 1);
    }

    @Says(promise = 9, sentence = "BAD")
    static void putInATextThatThereIsNot() {
        Nave x = new Nave().write(0, "p160m19").write(3, "m19");
        for (int t : outside(0, 3)) {
            x.refuses(BAD, "put", t, 0, 1).refuses(BAD, "put", t, -1, 1);
        }
    }

    @Says(promise = 9, sentence = "NOTHING")
    static void putInATextThatIsMissing() {
        Nave x = new Nave().due(1, "text", 1, 1);
        x.finds(NOTHING, "put", 0, 0, 1).finds(NOTHING, "put", 0, -1, 1).finds(NOTHING, "put", 0, 60, 1);
        x.finds(NOTHING, "put", 3, 0, 1).due(1032, "put", 1, 0, 1).due(0, "text", 0, 0).finds(BEYOND, "put", 0, 0, 1);
    }

    @Says(promise = 9, sentence = "BEYOND")
    static void putBeyondAText() {
        for (int n : new int[] {0, 1, 3, 60}) {
            Nave x = new Nave().due(n, "text", 2, n);
            for (int i : outside(0, n - 1)) {
                x.finds(BEYOND, "put", 2, i, 1);
            }
        }
    }

    @Says(promise = 10, sentence = "A FAULT of a TEXT; NONE: there is none.")
    static void faultOfEachText() {
        Nave x = new Nave().write(0, "p160m19").write(1, "x").write(2, "m19").write(3, "m19p160");
        x.aside(NONE, "fault", 0).aside(0, "fault", 1).aside(3, "fault", 2).aside(NONE, "fault", 3);
        x.due(0, "text", 0, 0).aside(0, "fault", 0).due(0, "count", 0);
    }

    @Says(promise = 10, sentence = "BAD")
    static void faultOfATextThatThereIsNot() {
        Nave x = new Nave().write(0, "p160m19").write(3, "m19");
        for (int t : outside(0, 3)) {
            x.refuses(BAD, "fault", t);
        }
    }

    @Says(promise = 10, sentence = "NOTHING")
    static void faultOfATextThatIsMissing() {
        Nave x = new Nave().write(1, "m19").finds(NOTHING, "fault", 0).finds(NOTHING, "fault", 2);
        x.finds(NOTHING, "fault", 3).aside(3, "fault", 1).due(0, "text", 0, 0).aside(0, "fault", 0);
    }

    @Says(promise = 11, sentence = "A NAVE by a TEXT (anew: YEAR 0, nobody is up, no WEAR, no STONE, no DEEDS; kept NAVES go): "
        + "how many POLES.")
    static void naveAnew() {
        Nave x = Nave.by("p503 l550 m35 m11").sits(0, 0).sits(1, 1).due(2, "keep", 0).stones(2).due(4, "keep", 1);
        x.due(1, "year").due(5, "keep", 2).fill(1, 4).tells(1, 4, "at", 1, 0).due(1, "odds", 1, 2);
        int[] before = {2, 2, 5, 1, 1, 2, 1, 2, 1, 1, 3, 1};
        int[] behind = {2, 2, 0, 0, 0, 0, 0, 0, 1, 1, 0, 1};
        for (int what = 0; what < before.length; what++) {
            x.due(before[what], "count", what);
        }
        x.due(2, "nave", 0);
        for (int what = 0; what < behind.length; what++) {
            x.due(behind[what], "count", what);
        }
        x.finds(NOTHING, "on", 0).finds(NOTHING, "on", 1).finds(NOTHING, "on", 2).refuses(BAD, "undo", 1).aside(0, "undo", 0);
        x.due(4, "asked").due(5, "upper").due(6, "lower").rowIs(1, 4).tells(1, NONE, "one", 0, 2).tells(1, NONE, "one", 1, 2);
        x.tells(1, 0, "pole", 0, 3).tells(1, 0, "pole", 1, 3).tells(1, 0, "pole", 0, 7).due(1, "stone").due(1, "count", 2);
    }

    @Says(promise = 11, sentence = "A NAVE by a TEXT (anew: YEAR 0, nobody is up, no WEAR, no STONE, no DEEDS; kept NAVES go): "
        + "how many POLES.")
    static void naveOfOneToFourPoles() {
        Nave x = new Nave();
        x.write(3, "p101m19").due(1, "nave", 3).refuses(BAD, "pole", 1, 0);
        x.write(3, "p101r202l303s404m19m28m37m46m55").due(4, "nave", 3).tells(1, 3, "pole", 3, 0).tells(1, 5, "one", 4, 0);
        x.write(2, "m11m22k505d606").due(2, "nave", 2).tells(1, 5, "pole", 0, 0).tells(1, 4, "pole", 1, 0);
        x.refuses(BAD, "pole", 2, 0).refuses(BAD, "one", 2, 0).due(3, "text", 2, 3).tells(1, 6, "pole", 1, 2);
        x.write(0, "l107l208l309m99").due(3, "nave", 0).tells(1, 9, "pole", 2, 2).refuses(BAD, "pole", 3, 0);
        x.refuses(BAD, "one", 1, 0).tells(1, 9, "one", 0, 1);
    }

    @Says(promise = 11, sentence = "BAD")
    static void naveByATextThatThereIsNot() {
        Nave x = Nave.by("p510m35").write(3, "d505m19").sits(0, 0);
        for (int t : outside(0, 3)) {
            x.refuses(BAD, "nave", t);
        }
        x.due(1, "nave", 3);
    }

    @Says(promise = 11, sentence = "NOTHING")
    static void naveByATextThatIsMissing() {
        Nave x = new Nave().finds(NOTHING, "nave", 0).finds(NOTHING, "nave", 3).refuses(STATE, "stone");
        x.write(0, "p510m35").due(1, "nave", 0).sits(0, 0).finds(NOTHING, "nave", 1).finds(NOTHING, "nave", 3);
        x.due(1, "count", 2).due(0, "text", 3, 0).refuses(STATE, "nave", 3);
    }

    @Says(promise = 11, sentence = "STATE: a FAULT.")
    static void naveByAFault() {
        String[] faults = {"", "x", "   ", "p510", "m35", "p510m3", "p5", "p561m35", "p510m35x", "p510m35 p0", "d101k202m35x"};
        Nave x = Nave.by("p510 l420 m35 m46").sits(0, 1).due(0, "year").due(2, "keep", 1);
        for (String signs : faults) {
            x.write(2, signs).refuses(STATE, "nave", 2);
        }
        x.tells(1, 20, "pole", 1, 2).tells(1, 2, "pole", 1, 3).tells(1, 1, "one", 0, 2).due(2, "on", 1);
        x.write(2, "p560m35").due(1, "nave", 2).refuses(BAD, "pole", 1, 0);
    }

    @Says(promise = 11, sentence = "STATE: a FAULT.")
    static void naveByAFaultWithoutPoles() {
        Nave x = new Nave().due(0, "text", 0, 0).refuses(STATE, "nave", 0).refuses(STATE, "holds").due(0, "count", 0);
        x.write(0, "p510m35m35m35m35x").refuses(STATE, "nave", 0).refuses(STATE, "holds").refuses(BAD, "pole", 0, 0);
        x.due(0, "count", 1).refuses(BAD, "one", 0, 0).finds(NOTHING, "on", 0);
    }

    @Says(promise = 11, sentence = "(STATE behind NOTHING.)")
    static void naveRefusedByTheFirst() {
        Nave x = new Nave().refuses(BAD, "nave", -1).refuses(BAD, "nave", 4).finds(NOTHING, "nave", 2);
        x.due(0, "text", 2, 0).refuses(STATE, "nave", 2).refuses(BAD, "nave", 4).finds(NOTHING, "nave", 3);
        x.write(2, "p510m35").due(1, "nave", 2);
    }

    private TextTests() {
    }
}
