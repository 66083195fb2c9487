/** Promises 21 to 23: deeds undone, naves kept. */
final class UndoTests extends Tests {
    private static final String UNDONE = "DEEDS from number n on (n 0 to how many there are: then 0) are undone: how many.";

    @Says(promise = 21, sentence = UNDONE)
    static void undoBringsBackEachState() {
        Nave x = Nave.by("p510 k605 m35 m93 m11").fill(0, 4, 5);
        long[] digests = new long[8];
        String[] deeds = {"sit 0 0", "sit 1 1", "year", "stone", "lace 0", "down 0", "year"};
        digests[0] = x.call("digest");
        for (int j = 0; j < deeds.length; j++) {
            x.callBy(deeds[j]);
            digests[j + 1] = x.call("digest");
        }
        for (int n = 7; n >= 0; n--) {
            x.due(n == 7 ? 0 : 1, "undo", n).due(digests[n], "digest").due(n, "count", 2);
        }
        for (int n = 0; n <= 7; n++) {
            for (int j = 0; j < 7; j++) {
                x.callBy(deeds[j]);
            }
            x.due(digests[7], "digest").due(7 - n, "undo", n).due(digests[n], "digest").due(n, "undo", 0);
        }
    }

    @Says(promise = 21, sentence = UNDONE)
    static void undoOfFortyDeeds() {
        Nave x = Nave.by("p510 m35").deeds(40).aside(0, "undo", 40).refuses(BAD, "undo", 41).due(1, "undo", 39);
        x.refuses(BAD, "undo", 40).aside(0, "undo", 39).due(38, "undo", 1).due(1, "count", 7).due(1, "undo", 0);
        x.due(0, "count", 7).deeds(40).due(40, "undo", 0).due(1, "stone").due(1, "undo", 0).aside(0, "undo", 0);
    }

    @Says(promise = 21, sentence = UNDONE)
    static void undoOfNoDeeds() {
        new Nave().aside(0, "undo", 0).refuses(BAD, "undo", 1).refuses(BAD, "undo", -1);
        Nave.by("p510 m35").aside(0, "undo", 0).refuses(BAD, "undo", 1).refuses(BAD, "undo", -1);
    }

    @Says(promise = 21, sentence = UNDONE)
    static void undoOfYearsGivesPolesBack() {
        Nave x = Nave.by("p510 p520 p504 p540 m35 m25").sits(0, 1).sits(1, 2).years(2).due(4, "count", 4).due(1, "count", 5);
        x.due(2, "undo", 2).due(0, "count", 4).due(3, "count", 5).due(0, "count", 3);
        for (int k = 0; k < 4; k++) {
            x.tells(1, 0, "pole", k, 3);
        }
        x.tells(1, 1, "one", 0, 2).tells(1, 2, "one", 1, 2).due(0, "year").due(4, "year").due(1, "undo", 3).due(0, "count", 4);
    }

    @Says(promise = 21, sentence = UNDONE)
    static void undoOfLots() {
        Nave x = Nave.by("p510 m35");
        x.call("lots", 20, 77);
        x.due(15, "undo", 5).due(5, "count", 2);
        Nave y = Nave.by("p510 m35");
        y.call("lots", 5, 77);
        x.due(y.call("digest"), "digest");
    }

    @Says(promise = 21, sentence = UNDONE)
    static void undoLeavesWhatIsKeptOrTold() {
        Nave x = Nave.by("p510 m35").sits(0, 0).due(1, "keep", 0).stones(2).due(3, "keep", 2).fill(1, 7);
        x.tells(1, 7, "at", 1, 0).due(1, "odds", 0, 3).due(3, "undo", 0).due(7, "asked").due(3, "upper").due(4, "lower");
        x.due(2, "count", 10).due(3, "on", 2).due(2, "count", 7).due(1, "undo", 2).due(3, "on", 2).due(1, "on", 0);
        x.rowIs(1, 7);
    }

    @Says(promise = 21, sentence = "BAD.")
    static void undoFromNoDeed() {
        Nave x = Nave.by("p510 m35").sits(0, 0).stones(2).years(1);
        for (int n : outside(0, 4)) {
            x.refuses(BAD, "undo", n);
        }
        x.aside(0, "undo", 4).due(1, "undo", 3).refuses(BAD, "undo", 4).due(3, "undo", 0).refuses(BAD, "undo", 1);
    }

    @Says(promise = 22, sentence = "The NAVE (as it is, DEEDS) is kept in a place (0 .. 2): how many DEEDS.")
    static void keepInEachPlace() {
        Nave x = Nave.by("p510 m35").due(0, "keep", 0).due(1, "count", 10).sits(0, 0).due(1, "keep", 1).due(2, "count", 10);
        x.due(0, "year").due(2, "keep", 2).due(3, "count", 10).due(2, "count", 2).due(1, "stone").due(3, "keep", 1);
        x.due(3, "count", 10).due(0, "on", 0).due(0, "count", 5).due(3, "on", 1).due(1, "count", 7).due(2, "on", 2);
        x.due(0, "count", 7).due(1, "count", 3);
    }

    @Says(promise = 22, sentence = "The NAVE (as it is, DEEDS) is kept in a place (0 .. 2): how many DEEDS.")
    static void keepOfNoneAndFortyDeeds() {
        Nave x = Nave.by("p510 m35").due(0, "keep", 2).deeds(39).due(39, "keep", 0).deeds(40).due(40, "keep", 1);
        x.due(40, "keep", 0).due(39, "undo", 1).due(40, "on", 1).due(40, "count", 7).refuses(FULL, "stone");
        x.due(0, "on", 2).due(1, "stone").due(40, "on", 0).due(40, "count", 7);
    }

    @Says(promise = 22, sentence = "BAD;")
    static void keepInNoPlace() {
        Nave x = Nave.by("p510 m35").sits(0, 0).due(1, "keep", 0).due(1, "keep", 2).stones(1);
        for (int k : outside(0, 2)) {
            x.refuses(BAD, "keep", k);
        }
        x.due(2, "count", 10).due(1, "on", 0).due(1, "on", 2);
        new Nave().refuses(BAD, "keep", -1).refuses(BAD, "keep", 3);
    }

    @Says(promise = 22, sentence = "STATE: no POLES.")
    static void keepWithoutPoles() {
        Nave x = new Nave().refuses(STATE, "keep", 0).refuses(STATE, "keep", 2).refuses(BAD, "keep", 3).finds(NOTHING, "on", 0);
        x.write(0, "p510m35").refuses(STATE, "keep", 0).due(1, "nave", 0).due(0, "keep", 0).due(0, "on", 0);
    }

    @Says(promise = 23, sentence = "The NAVE is as it was kept: how many DEEDS.")
    static void onAsItWasKept() {
        Nave x = Nave.by("p510 p503 m35 m25").sits(0, 0).sits(1, 1).due(2, "year").stones(1).due(4, "keep", 1);
        long kept = x.call("digest");
        x.due(4, "undo", 0).stones(2).due(4, "on", 1).due(kept, "digest").due(2, "count", 4).due(1, "count", 7);
        x.tells(1, 2, "pole", 0, 3).tells(1, NONE, "one", 1, 2).due(1, "undo", 3).due(0, "count", 7);
        x.due(1, "undo", 2).due(0, "count", 4).due(3, "count", 5).due(4, "on", 1).due(kept, "digest");
        x.due(5, "down", 0).due(0, "year").due(4, "on", 1).due(kept, "digest").aside(4, "on", 1);
    }

    @Says(promise = 23, sentence = "The NAVE is as it was kept: how many DEEDS.")
    static void onOfNoneAndFortyDeeds() {
        Nave x = Nave.by("p510 m35").due(0, "keep", 0).deeds(40).due(40, "keep", 2).due(0, "on", 0).due(0, "count", 2);
        x.due(0, "count", 7).aside(0, "undo", 0).refuses(BAD, "undo", 1).due(40, "on", 2).due(40, "count", 2);
        x.refuses(FULL, "stone").due(40, "count", 7).due(0, "on", 0).due(1, "stone");
    }

    @Says(promise = 23, sentence = "BAD;")
    static void onFromNoPlace() {
        Nave x = Nave.by("p510 m35").sits(0, 0).due(1, "keep", 0).due(1, "keep", 1).due(1, "keep", 2).stones(1);
        for (int k : outside(0, 2)) {
            x.refuses(BAD, "on", k);
        }
        x.due(1, "on", 0).due(1, "on", 2);
        new Nave().refuses(BAD, "on", -1).refuses(BAD, "on", 3);
    }

    @Says(promise = 23, sentence = "NOTHING.")
    static void onOfNothingKept() {
        Nave x = Nave.by("p510 m35").finds(NOTHING, "on", 0).finds(NOTHING, "on", 1).finds(NOTHING, "on", 2).sits(0, 0);
        x.due(1, "keep", 1).finds(NOTHING, "on", 0).finds(NOTHING, "on", 2).due(1, "on", 1).due(1, "nave", 0);
        x.finds(NOTHING, "on", 1).due(0, "keep", 2).finds(NOTHING, "on", 1).due(0, "on", 2);
        new Nave().finds(NOTHING, "on", 0).finds(NOTHING, "on", 2);
    }

    private UndoTests() {
    }
}
