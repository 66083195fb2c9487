/** Promises 12 to 15: what poles and people are. */
final class PoleTests extends Tests {
    private static final String OF_A_POLE = "Of a POLE: 0 the KIND, 1 how TALL, 2 how STRONG, 3 WEAR, 4 what it BEARS, 5 its LOAD, "
        + "6 who SITS on it (bits), 7 whether it is DOWN (1, 0), all told by asked(): 1.";
    private static final String OF_ONE = "Of one of PEOPLE: 0 the WEIGHT, 1 how DEVOUT, 2 the POLE (NONE: on the ground), "
        + "3 how HIGH one SITS (0 on the ground), all told by asked(): 1.";

    @Says(promise = 12, sentence = OF_A_POLE)
    static void poleTellsAll() {
        Nave x = Nave.by("p510 d305 l400 k960 m35 m92 m11");
        poleIs(x, 0, POLE, 5, 10, 0, 10, 0, 0, 0);
        poleIs(x, 1, RIDGE, 3, 5, 0, 11, 0, 0, 0);
        poleIs(x, 2, LACED, 4, 0, 0, 0, 0, 0, 0);
        poleIs(x, 3, OAK, 9, 60, 0, 60, 0, 0, 0);
        x.sits(0, 0).sits(2, 0).sits(1, 2);
        poleIs(x, 0, POLE, 5, 10, 0, 10, 6, 5, 0);
        poleIs(x, 2, LACED, 4, 0, 0, 0, 10, 2, 0);
        x.due(4, "year");
        poleIs(x, 0, POLE, 5, 10, 2, 6, 6, 5, 0);
        poleIs(x, 1, RIDGE, 3, 5, 1, 10, 0, 0, 0);
        poleIs(x, 2, LACED, 4, 0, 0, 0, 0, 0, 1);
        x.years(2);
        poleIs(x, 0, POLE, 5, 10, 4, 2, 0, 0, 1);
        poleIs(x, 1, RIDGE, 3, 5, 3, 8, 0, 0, 0);
        poleIs(x, 3, OAK, 9, 60, 3, 36, 0, 0, 0);
    }

    private static void poleIs(Nave x, int k, int... of) {
        long digest = x.call("digest");
        for (int what = 0; what < of.length; what++) {
            x.tells(1, of[what], "pole", k, what);
        }
        x.due(digest, "digest");
    }

    @Says(promise = 12, sentence = "BAD.")
    static void poleThatThereIsNot() {
        int[] many = {1, 2, 3, 4};
        String[] naves = {"p510 m35", "p510 d305 m35 m92", "p510 d305 l400 m35 m92 m11 m11", "p510 d305 l400 k960 m35"};
        for (int j = 0; j < many.length; j++) {
            for (int what : new int[] {0, 7}) {
                Nave x = Nave.by(naves[j]).tells(1, 5, "pole", 0, 1);
                for (int k : outside(0, many[j] - 1)) {
                    x.refuses(BAD, "pole", k, what);
                }
                x.due(1, "pole", many[j] - 1, what);
            }
        }
        new Nave().refuses(BAD, "pole", 0, 0).refuses(BAD, "pole", -1, 0).refuses(BAD, "pole", 1, 0);
    }

    @Says(promise = 12, sentence = "BAD.")
    static void poleOfWhatThereIsNot() {
        Nave x = Nave.by("p510 d305 l400 k960 m35").tells(1, 5, "pole", 0, 1);
        for (int what : outside(0, 7)) {
            x.refuses(BAD, "pole", 0, what).refuses(BAD, "pole", 3, what);
        }
        x.tells(1, OAK, "pole", 3, 0).tells(1, 0, "pole", 3, 7);
    }

    @Says(promise = 13, sentence = OF_ONE)
    static void oneTellsAll() {
        Nave x = Nave.by("p560 d305 m38 m92 m10");
        oneIs(x, 0, 3, 8, NONE, 0);
        oneIs(x, 1, 9, 2, NONE, 0);
        oneIs(x, 2, 1, 0, NONE, 0);
        x.sits(0, 0).sits(1, 1).sits(2, 1);
        oneIs(x, 0, 3, 8, 0, 5);
        oneIs(x, 1, 9, 2, 1, 2);
        oneIs(x, 2, 1, 0, 1, 0);
        x.due(5, "down", 0);
        oneIs(x, 0, 3, 8, NONE, 0);
        oneIs(x, 1, 9, 2, 1, 2);
        x.due(0, "year").sits(0, 1);
        oneIs(x, 0, 3, 8, 1, 3);
        oneIs(x, 1, 9, 2, 1, 2);
    }

    @Says(promise = 13, sentence = OF_ONE)
    static void oneIsOnTheGroundWhenAPoleGives() {
        Nave x = Nave.by("p560 p504 m38 m25 m92").sits(0, 0).sits(1, 1).sits(2, 1);
        oneIs(x, 2, 9, 2, 1, 2);
        x.due(2, "year");
        oneIs(x, 0, 3, 8, 0, 5);
        oneIs(x, 1, 2, 5, NONE, 0);
        oneIs(x, 2, 9, 2, NONE, 0);
    }

    private static void oneIs(Nave x, int i, int... of) {
        long digest = x.call("digest");
        for (int what = 0; what < of.length; what++) {
            x.tells(1, of[what], "one", i, what);
        }
        x.due(digest, "digest");
    }

    @Says(promise = 13, sentence = "BAD.")
    static void oneWhoThereIsNot() {
        String[] naves = {"p510 m35", "p510 d305 m35 m92", "p510 m35 m92 m11", "p510 m35 m92 m11 m11", "p510 m11 m22 m33 m44 m55"};
        for (int j = 0; j < naves.length; j++) {
            for (int what : new int[] {0, 3}) {
                Nave x = Nave.by(naves[j]).due(1, "one", 0, 1);
                for (int i : outside(0, j)) {
                    x.refuses(BAD, "one", i, what);
                }
                x.due(1, "one", j, what);
            }
        }
        new Nave().refuses(BAD, "one", 0, 0).refuses(BAD, "one", -1, 0).refuses(BAD, "one", 1, 0);
    }

    @Says(promise = 13, sentence = "BAD.")
    static void oneOfWhatThereIsNot() {
        Nave x = Nave.by("p510 m11 m22 m33 m44 m55").tells(1, 5, "one", 4, 0);
        for (int what : outside(0, 3)) {
            x.refuses(BAD, "one", 0, what).refuses(BAD, "one", 4, what);
        }
        x.tells(1, 5, "one", 4, 0).tells(1, 0, "one", 4, 3);
    }

    @Says(promise = 14, sentence = "What a POLE that IS of a KIND tells of now: a ROTTEN one (OAK, too) how much less it BEARS "
        + "than a POLE alike,")
    static void markOfRotten() {
        marksBy("r720", ROTTEN, 0, 0, 0, 4, 4, 3, 2, 2, 1, 0, 0, 0);
        marksBy("r919", ROTTEN, 0, 0, 0, 4, 3, 3, 2, 1, 1, 0, 0, 0);
        marksBy("k720", ROTTEN, 0, 0, 0, 4, 4, 3, 2, 2, 1, 0, 0, 0);
        marksBy("k620", ROTTEN, 0, 0, 0, 4, 4, 3);
        marksBy("k520", ROTTEN, 0, 0, 0, 0, 0, 0);
        marksBy("r160", ROTTEN, 0, 0, 0, 18, 17, 16);
        marksBy("r100", ROTTEN, 0, 0, 0, 0, 0, 0);
    }

    @Says(promise = 14, sentence = "a LACED one (SPLICED, RIDGE, too) how much more, and 100 (below that, if it BEARS less),")
    static void markOfLaced() {
        marksBy("l705", LACED, 100, 101, 102, 102, 101, 100, 100);
        marksBy("l160", LACED, 100, 101, 102, 103, 104);
        marksBy("l900", LACED, 100, 100, 100);
        marksBy("s720", LACED, 95, 96, 97, 98, 99, 100, 101, 102, 103, 104, 105, 104);
        marksBy("s103", LACED, 97, 99, 100, 100);
        marksBy("s100", LACED, 100, 100);
        marksBy("d705", LACED, 114, 115, 116, 116, 115, 114, 114);
        marksBy("d900", LACED, 118, 118, 118);
        marksBy("d160", LACED, 102, 103, 104);
    }

    @Says(promise = 14, sentence = "a SPLICED one how much less than a LACED one alike,")
    static void markOfSpliced() {
        marksBy("s708", SPLICED, 5, 5, 5, 5, 4, 3, 2, 1, 0, 0);
        marksBy("s105", SPLICED, 5, 4, 3, 2, 1, 0, 0);
        marksBy("s904", SPLICED, 4, 3);
        marksBy("s106", SPLICED, 5, 5, 4);
        marksBy("s100", SPLICED, 0, 0);
    }

    @Says(promise = 14, sentence = "a RIDGE how much more than a LACED one alike,")
    static void markOfRidge() {
        marksBy("d102", RIDGE, 2, 2, 2, 2);
        marksBy("d900", RIDGE, 18, 18);
        marksBy("d860", RIDGE, 16, 16);
    }

    @Says(promise = 14, sentence = "an OAK how much more than a ROTTEN one alike.")
    static void markOfOak() {
        marksBy("k420", OAK, 0, 0, 0, 4, 4);
        marksBy("k520", OAK, 0, 0, 0, 4, 4, 3, 2, 2, 1, 0, 0, 0);
        marksBy("k620", OAK, 0, 0, 0, 0, 0);
        marksBy("k919", OAK, 0, 0, 0, 0, 0);
        marksBy("k160", OAK, 0, 0, 0, 18, 17);
    }

    /** The marks of a pole that nobody is on, from WEAR 0 on. */
    private static void marksBy(String pole, int kind, int... want) {
        Nave x = Nave.by(pole + "m10");
        for (int wear = 0; wear < want.length; wear++) {
            x.aside(want[wear], "mark", 0, kind).due(0, "year");
        }
        x.due(want.length, "lace", 0).aside(want[0], "mark", 0, kind);
    }

    @Says(promise = 14, sentence = "What a POLE that IS of a KIND tells of now: a ROTTEN one (OAK, too) how much less it BEARS "
        + "than a POLE alike,")
    static void markOfOneThatIsDown() {
        Nave x = Nave.by("r908 s708 m90 m90").sits(0, 0).sits(1, 1).years(1);
        x.tells(1, 1, "pole", 0, 7).tells(1, 1, "pole", 1, 7).aside(0, "mark", 0, ROTTEN).aside(5, "mark", 1, SPLICED);
        Nave y = Nave.by("r920 m90").sits(0, 0).years(3).tells(1, 4, "pole", 0, 3).tells(1, 1, "pole", 0, 7);
        y.aside(4, "mark", 0, ROTTEN);
    }

    @Says(promise = 14, sentence = "BAD: also KIND 0;")
    static void markOfAKindThatThereIsNot() {
        Nave x = Nave.by("p720 r720 l720 k720 m10").refuses(BAD, "mark", 0, 0).refuses(BAD, "mark", 3, 0);
        for (int kind : outside(1, 5)) {
            x.refuses(BAD, "mark", 0, kind).refuses(BAD, "mark", 1, kind);
        }
        x.due(0, "mark", 1, 1).due(0, "mark", 3, 5);
    }

    @Says(promise = 14, sentence = "BAD: also KIND 0;")
    static void markOfAPoleThatThereIsNot() {
        for (int kind : new int[] {0, 1, 5}) {
            Nave x = Nave.by("r720 r720 l720 k720 m10");
            for (int k : outside(0, 3)) {
                x.refuses(BAD, "mark", k, kind);
            }
            x.due(0, "mark", 0, 1).due(0, "mark", 3, 5);
        }
        Nave.by("r720 m10").refuses(BAD, "mark", 1, 1).due(0, "mark", 0, 1);
        new Nave().refuses(BAD, "mark", 0, 1).refuses(BAD, "mark", 0, 0).refuses(BAD, "mark", 0, 5);
    }

    @Says(promise = 14, sentence = "UNLIKE.")
    static void markOfAnotherKind() {
        int[][] marks = {
            {FINDING, FINDING, FINDING, FINDING, FINDING}, {0, FINDING, FINDING, FINDING, FINDING},
            {FINDING, 100, FINDING, FINDING, FINDING}, {FINDING, 95, 5, FINDING, FINDING},
            {FINDING, 114, FINDING, 14, FINDING}, {0, FINDING, FINDING, FINDING, 0},
        };
        for (int kind = POLE; kind <= OAK; kind++) {
            Nave x = Nave.by(LETTERS.charAt(kind) + "720 m10");
            for (int other = ROTTEN; other <= OAK; other++) {
                if (marks[kind][other - 1] == FINDING) {
                    x.finds(UNLIKE, "mark", 0, other);
                } else {
                    x.aside(marks[kind][other - 1], "mark", 0, other);
                }
            }
        }
    }

    @Says(promise = 15, sentence = "What a POLE would BEAR with WEAR (0 .. 20).")
    static void bearsWhateverItsWear() {
        Nave x = Nave.by("l540 k720 m10").sits(0, 0).aside(40, "bears", 0, 0).aside(20, "bears", 0, 20);
        x.aside(39, "bears", 0, 1).aside(21, "bears", 0, 19).aside(20, "bears", 1, 0).aside(10, "bears", 1, 3);
        x.due(0, "year").tells(1, 38, "pole", 0, 4);
        x.aside(40, "bears", 0, 0).aside(20, "bears", 0, 20).aside(39, "bears", 0, 1).aside(10, "bears", 1, 3);
        Nave down = Nave.by("l509 m90").sits(0, 0).years(2).tells(1, 1, "pole", 0, 7);
        down.aside(9, "bears", 0, 0).aside(0, "bears", 0, 20);
    }

    @Says(promise = 15, sentence = "BAD.")
    static void bearsWithWearThatThereIsNot() {
        Nave x = Nave.by("l560 m10");
        for (int wear : outside(0, 20)) {
            x.refuses(BAD, "bears", 0, wear);
        }
        x.aside(60, "bears", 0, 0).aside(40, "bears", 0, 20);
    }

    @Says(promise = 15, sentence = "BAD.")
    static void bearsOfAPoleThatThereIsNot() {
        for (int wear : new int[] {0, 20, 21}) {
            Nave x = Nave.by("l560 l560 m10");
            for (int k : outside(0, 1)) {
                x.refuses(BAD, "bears", k, wear);
            }
        }
        new Nave().refuses(BAD, "bears", 0, 0).refuses(BAD, "bears", 0, 20);
    }

    private PoleTests() {
    }
}
