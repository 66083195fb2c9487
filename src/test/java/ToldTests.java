import java.util.Arrays;

/** Promises 38 to 44: what is told. */
final class ToldTests extends Tests {
    private static final int MISSING = -1;
    private static final String ASKED = "What the latest lay(), at(), mean(), pole(), one(), holds(), later(), fewest(), seated(), "
        + "strengths(), test() that was not refused (nor answered NONE) told;";

    @Says(promise = 38, sentence = ASKED)
    static void askedByEachCallThatTells() {
        Nave x = Nave.by("p510 p510 m35 m46").fill(0, 31, 8);
        x.tells(1, 31, "at", 0, 0).tells(1, 8, "lay", 0, 1, 2).tells(1, 16, "mean", 0).tells(1, 10, "pole", 1, 2);
        x.tells(1, 4, "one", 1, 0).tells(3, 0, "holds").tells(2, 3, "fewest").tells(0, 0, "later", 0).fill(2, 1, 1);
        x.tells(1, 10, "seated", 2).fill(2, 0, 15, 1).tells(46, 15, "strengths", 0, 2).due(0, "row", 2, 0).tells(6, 5, "test", 0, 2);
        x.sits(0, 0).sits(1, 0).tells(2, 1, "holds").tells(0, 1, "later", 1);
    }

    @Says(promise = 38, sentence = ASKED)
    static void askedStaysByOtherCalls() {
        Nave x = Nave.by("p510 l510 m35 m46").fill(0, 31, 8).fill(2, 0, 1, 1).tells(1, 31, "at", 0, 0);
        String[] others = {
            "sit 0 0", "sit 1 1", "down 0", "lace 0", "stone", "year", "undo 5", "keep 0", "on 0", "gives 0", "best 1", "laces 2 1",
            "kinds 0 2", "duel 2", "odds 0 1", "mid 1", "lots 2 5", "upper", "lower", "count 2", "finding", "findings 1", "digest",
            "mark 1 2", "bears 0 0", "row 3 4", "copy 0 0 3 0 2", "tear 3", "text 1 9", "put 1 0 112", "fault 0", "nave 0", "asked",
        };
        for (String call : others) {
            if (x.callBy(call) == FINDING) {
                Check.fail(call + " is refused");
            }
            x.due(31, "asked");
        }
    }

    @Says(promise = 38, sentence = "(nor answered NONE)")
    static void askedStaysByNone() {
        Nave x = Nave.by("p504 m35").tells(1, 4, "pole", 0, 2).refuses(NONE, "fewest").fill(2, 0, 0, 0).tells(1, 0, "at", 2, 0);
        x.tells(1, 4, "pole", 0, 2).refuses(NONE, "strengths", 0, 2).refuses(NONE, "test", 0, 2).due(4, "asked");
        x.sits(0, 0).refuses(NONE, "laces", 1, 1).due(4, "asked").due(1, "year").refuses(NONE, "gives", 0).due(4, "asked");
    }

    @Says(promise = 38, sentence = "that was not refused")
    static void askedStaysByWhatIsRefused() {
        Nave x = Nave.by("p504 m35").fill(0, 1, 2).due(0, "row", 1, 0).tells(1, 4, "pole", 0, 2);
        x.refuses(BAD, "lay", 6, 0, 1).finds(NOTHING, "lay", 5, 0, 1).finds(BEYOND, "lay", 0, 2, 1).refuses(BAD, "at", 6, 0);
        x.finds(NOTHING, "at", 5, 0).finds(BEYOND, "at", 0, 2).refuses(BAD, "mean", 6).finds(NOTHING, "mean", 5);
        x.finds(NOUGHT, "mean", 1).refuses(BAD, "pole", 1, 0).refuses(BAD, "one", 1, 0).refuses(BAD, "later", 41);
        x.finds(SIZE, "seated", 0).refuses(BAD, "strengths", 1, 0).finds(SIZE, "strengths", 0, 0).refuses(BAD, "test", 1, 0);
        x.finds(SIZE, "test", 0, 0).refuses(BAD, "seated", 6).fill(0, 9).tells(1, 4, "pole", 0, 2).finds(UNLIKE, "seated", 0);
        x.due(4, "asked");
        Nave y = new Nave().fill(0, 7).tells(1, 7, "at", 0, 0).refuses(STATE, "holds").refuses(STATE, "later", 0);
        y.refuses(STATE, "fewest").refuses(STATE, "seated", 0).due(7, "asked");
    }

    @Says(promise = 38, sentence = "0 before.")
    static void askedBefore() {
        new Nave().aside(0, "asked").refuses(BAD, "pole", 0, 0).finds(NOTHING, "at", 0, 0).aside(0, "asked");
        Nave.by("p510 m35").sits(0, 0).years(1).aside(0, "asked").tells(1, 5, "pole", 0, 5).due(1, "nave", 0).aside(5, "asked");
    }

    @Says(promise = 39, sentence = "The upper number that was told last;")
    static void upperToldLast() {
        Nave x = Nave.by("p510 m35").sits(0, 0).due(1, "odds", 0, 3).aside(3, "upper").due(1, "mid", 2).aside(25, "upper");
        x.refuses(BAD, "odds", 1, 0).refuses(BAD, "mid", 13).refuses(BAD, "odds", 0, -1).aside(25, "upper").tells(1, 10, "pole", 0, 2);
        x.aside(25, "upper").due(1, "nave", 0).aside(25, "upper").due(1, "odds", 0, 0).aside(0, "upper");
    }

    @Says(promise = 39, sentence = "0 before.")
    static void upperBefore() {
        new Nave().aside(0, "upper").refuses(STATE, "mid", 0).refuses(BAD, "odds", 0, 0).aside(0, "upper");
        Nave.by("p510 m35").sits(0, 0).refuses(BAD, "mid", 13).aside(0, "upper").due(1, "mid", 0).aside(5, "upper");
    }

    @Says(promise = 40, sentence = "Its lower number;")
    static void lowerToldLast() {
        Nave x = Nave.by("p510 m35").sits(0, 0).due(1, "odds", 0, 3).aside(4, "lower").due(1, "mid", 2).aside(6, "lower");
        x.refuses(BAD, "odds", 1, 0).refuses(BAD, "mid", 13).refuses(BAD, "odds", 0, -1).aside(6, "lower").tells(1, 10, "pole", 0, 2);
        x.aside(6, "lower").due(1, "nave", 0).aside(6, "lower").due(1, "odds", 0, 5).aside(1, "lower");
    }

    @Says(promise = 40, sentence = "1 before.")
    static void lowerBefore() {
        new Nave().aside(1, "lower").refuses(STATE, "mid", 0).refuses(BAD, "odds", 0, 0).aside(1, "lower");
        Nave.by("p510 m35").sits(0, 0).refuses(BAD, "mid", 13).aside(1, "lower").due(1, "mid", 1).aside(12, "lower");
    }

    private static Nave countsAre(Nave x, int... want) {
        long digest = x.call("digest");
        for (int what = 0; what < want.length; what++) {
            x.due(want[what], "count", what);
        }
        return x.due(digest, "digest");
    }

    @Says(promise = 41, sentence = "0 POLES, 1 PEOPLE, 2 DEEDS, 3 the YEAR, 4 POLES that are DOWN (bits), 5 PEOPLE that are up (bits), "
        + "6 how HIGH all are together, 7 STONES, 8 ROWS, 9 TEXTS that are there, 10 kept NAVES, 11 LACED POLES (SPLICED, RIDGE, too).")
    static void countsOfAll() {
        countsAre(new Nave(), 0, 0, 0, 0, 0, 0, 0, 0, 0, 0, 0, 0);
        Nave x = countsAre(Nave.by("l712 s712 p504 d512 m35 m47 m19"), 4, 3, 0, 0, 0, 0, 0, 0, 0, 1, 0, 3);
        x.sits(0, 0).sits(1, 2).sits(2, 3).stones(2).years(1).fill(1, 5).due(0, "row", 4, 0).due(0, "text", 2, 0).due(4, "text", 3, 4);
        x.due(6, "keep", 0).due(6, "keep", 1);
        countsAre(x, 4, 3, 6, 1, 4, 5, 10, 2, 2, 3, 2, 3);
        countsAre(x.due(1, "tear", 1).due(1, "lace", 1).due(5, "down", 0), 4, 3, 8, 1, 4, 4, 5, 2, 1, 3, 2, 3);
    }

    @Says(promise = 41, sentence = "11 LACED POLES (SPLICED, RIDGE, too).")
    static void countsOfLacedPoles() {
        countsAre(Nave.by("p712 k712 r504 m35"), 3, 1, 0, 0, 0, 0, 0, 0, 0, 1, 0, 0);
        countsAre(Nave.by("k712 d712 m35"), 2, 1, 0, 0, 0, 0, 0, 0, 0, 1, 0, 1);
        countsAre(Nave.by("s712 r712 l712 m35"), 3, 1, 0, 0, 0, 0, 0, 0, 0, 1, 0, 2);
        countsAre(Nave.by("l712 l712 l712 l712 m35"), 4, 1, 0, 0, 0, 0, 0, 0, 0, 1, 0, 4);
        countsAre(Nave.by("l100 m11").sits(0, 0).years(1), 1, 1, 2, 1, 1, 0, 0, 0, 0, 1, 0, 1);
    }

    @Says(promise = 41, sentence = "0 POLES, 1 PEOPLE, 2 DEEDS, 3 the YEAR, 4 POLES that are DOWN (bits), 5 PEOPLE that are up (bits),")
    static void countsAtTheirMost() {
        Nave x = Nave.by("d900d900d900d900m19m19m19m19m19");
        for (int i = 0; i < 5; i++) {
            x.sits(i, 0);
        }
        countsAre(x, 4, 5, 5, 0, 0, 31, 45, 0, 0, 1, 0, 4);
        x.deeds(40).due(40, "keep", 0).due(40, "keep", 1).due(40, "keep", 2);
        for (int r = 0; r <= 5; r++) {
            x.due(40, "row", r, 40);
        }
        for (int t = 1; t <= 3; t++) {
            x.due(60, "text", t, 60);
        }
        countsAre(x, 4, 5, 40, 0, 0, 31, 45, 35, 6, 4, 3, 4);
        Nave years = Nave.by("p500p500p500p500m10m10m10m10");
        for (int k = 0; k < 4; k++) {
            years.sits(k, k);
        }
        countsAre(years.years(36), 4, 4, 40, 36, 15, 0, 0, 0, 0, 1, 0, 0);
    }

    @Says(promise = 41, sentence = "BAD.")
    static void countOfWhatThereIsNot() {
        Nave x = Nave.by("l510 m35").due(1, "count", 11).due(1, "count", 0);
        for (int what : outside(0, 11)) {
            x.refuses(BAD, "count", what);
        }
        new Nave().refuses(BAD, "count", -1).refuses(BAD, "count", 12).aside(0, "count", 11).aside(0, "count", 0);
    }

    @Says(promise = 42, sentence = "The latest FINDING (0 before any).")
    static void findingIsTheLatest() {
        Nave x = new Nave().aside(0, "finding").refuses(BAD, "row", 6, 0).refuses(STATE, "holds").aside(0, "finding");
        x.due(FINDING, "tear", 0).aside(1, "finding").due(0, "row", 0, 0).due(FINDING, "at", 0, 0).aside(2, "finding");
        x.due(FINDING, "mean", 0).aside(4, "finding").due(FINDING, "row", 0, -1).aside(5, "finding").write(0, "p510 m35");
        x.due(1, "nave", 0).due(FINDING, "mark", 0, 1).aside(3, "finding").refuses(BAD, "mark", 0, 0).sits(0, 0);
        x.refuses(STATE, "sit", 0, 0).due(2, "row", 1, 2).due(1, "nave", 0).aside(3, "finding");
        x.due(FINDING, "on", 0).aside(1, "finding").due(FINDING, "on", 0).aside(1, "finding");
    }

    private static Nave findingsAre(Nave x, int... want) {
        for (int f = 1; f <= want.length; f++) {
            x.aside(want[f - 1], "findings", f);
        }
        return x;
    }

    @Says(promise = 43, sentence = "How often a FINDING (1 .. 5) was answered.")
    static void findingsAreCounted() {
        Nave x = findingsAre(Nave.by("p510 m35"), 0, 0, 0, 0, 0).due(FINDING, "tear", 0).due(FINDING, "tear", 1);
        x.due(FINDING, "fault", 2).due(0, "row", 0, 0).due(FINDING, "at", 0, 0).due(FINDING, "at", 0, 1);
        x.due(FINDING, "mark", 0, 1).due(FINDING, "mean", 0).due(FINDING, "mean", 0).due(FINDING, "text", 0, -1);
        x.due(BAD, "row", 6, -1).due(FINDING, "on", 0);
        findingsAre(findingsAre(x, 4, 2, 1, 2, 1).due(1, "nave", 0), 4, 2, 1, 2, 1);
    }

    @Says(promise = 43, sentence = "How often a FINDING (1 .. 5) was answered.")
    static void findingsOfHundreds() {
        Nave x = new Nave();
        for (int j = 0; j < 500; j++) {
            x.call("tear", 0);
        }
        x.due(500, "findings", 1).due(0, "findings", 2).due(1, "finding");
    }

    @Says(promise = 43, sentence = "BAD.")
    static void findingsOfWhatThereIsNot() {
        Nave x = new Nave().due(FINDING, "tear", 0).due(FINDING, "row", 0, -1);
        for (int f : outside(1, 5)) {
            x.refuses(BAD, "findings", f);
        }
        x.aside(1, "findings", 1).aside(1, "findings", 5);
    }

    private static long fold(long h, int... all) {
        for (int v : all) {
            h = 31 * h + v;
        }
        return h;
    }

    @Says(promise = 44, sentence = "h = 17; then h = 31 h + v for each v (of a call that tells by asked(): what it tells, not the 1 that it "
        + "answers; asked() stays):")
    static void digestOfANewObject() {
        int[] all = new int[12 + 3 + 6 + 4];
        for (int j = 12; j < all.length; j++) {
            all[j] = MISSING;
        }
        new Nave().due(fold(17, all), "digest").due(0, "asked");
        Nave x = Nave.by("p510 m35").fill(0, 7).tells(1, 7, "at", 0, 0).due(1, "odds", 0, 3);
        long digest = x.call("digest");
        x.due(7, "asked").due(0, "upper").due(1, "lower").due(digest, "digest").due(0, "finding");
    }

    @Says(promise = 44, sentence = "count() 0 to 11; of each POLE pole() 0 to 7; of each of PEOPLE one() 0 to 3; of each kept NAVE how many "
        + "DEEDS (-1: missing); of each ROW its size (-1: missing) and places, of each TEXT likewise.")
    static void digestOfAll() {
        String signs = "l712 p504 m35 m47";
        Nave x = Nave.by(signs).sits(0, 0).due(1, "keep", 1).sits(1, 1).due(2, "year").due(1, "stone").due(4, "keep", 2);
        x.due(2, "lace", 0).fill(0, -7, HIGHEST, LOWEST).due(0, "row", 5, 0).due(2, "text", 1, 2).due(1032, "put", 1, 1, 200);
        long h = fold(17, 2, 2, 5, 1, 2, 1, 5, 1, 2, 2, 2, 1);
        h = fold(h, LACED, 7, 12, 0, 12, 5, 1, 0);
        h = fold(h, POLE, 5, 4, 0, 4, 0, 0, 1);
        h = fold(h, 3, 5, 0, 5, 4, 7, NONE, 0);
        h = fold(h, MISSING, 1, 4);
        h = fold(h, 3, -7, HIGHEST, LOWEST, MISSING, MISSING, MISSING, MISSING, 0);
        h = fold(fold(h, signs.length()), signs.chars().toArray());
        h = fold(h, 2, 32, -56, MISSING, MISSING);
        x.due(h, "digest").due(h, "digest");
    }

    @Says(promise = 44, sentence = "of each POLE pole() 0 to 7; of each of PEOPLE one() 0 to 3;")
    static void digestOfFourPolesOrFivePeople() {
        String[] naves = {"p101r202l303s404m19", "d505m11m22m33m44m55"};
        int[][] counts = {{4, 1, 0, 0, 0, 0, 0, 0, 0, 1, 0, 2}, {1, 5, 0, 0, 0, 0, 0, 0, 0, 1, 0, 1}};
        int[][] all = {
            {0, 1, 1, 0, 1, 0, 0, 0, 1, 2, 2, 0, 2, 0, 0, 0, 2, 3, 3, 0, 3, 0, 0, 0, 3, 4, 4, 0, 0, 0, 0, 0, 1, 9, NONE, 0},
            {4, 5, 5, 0, 15, 0, 0, 0, 1, 1, NONE, 0, 2, 2, NONE, 0, 3, 3, NONE, 0, 4, 4, NONE, 0, 5, 5, NONE, 0},
        };
        for (int j = 0; j < naves.length; j++) {
            long h = fold(fold(fold(17, counts[j]), all[j]), MISSING, MISSING, MISSING);
            h = fold(h, MISSING, MISSING, MISSING, MISSING, MISSING, MISSING, naves[j].length());
            h = fold(fold(h, naves[j].chars().toArray()), MISSING, MISSING, MISSING);
            Nave.by(naves[j]).due(h, "digest");
        }
    }

    @Says(promise = 44, sentence = "of each ROW its size (-1: missing) and places, of each TEXT likewise.")
    static void digestOfFullRowsAndTexts() {
        Nave x = new Nave();
        long h = fold(17, 0, 0, 0, 0, 0, 0, 0, 0, 6, 4, 0, 0, MISSING, MISSING, MISSING);
        for (int r = 0; r <= 5; r++) {
            x.due(40, "row", r, 40).due(1, "lay", r, 39, r - 9).due(1, "lay", r, 0, HIGHEST - r);
            int[] places = new int[40];
            places[0] = HIGHEST - r;
            places[39] = r - 9;
            h = fold(fold(h, 40), places);
        }
        for (int t = 0; t <= 3; t++) {
            x.due(60, "text", t, 60).due(1032, "put", t, 59, 255 - t).due(1032, "put", t, 0, 127);
            int[] bytes = new int[60];
            Arrays.fill(bytes, 32);
            bytes[0] = 127;
            bytes[59] = -1 - t;
            h = fold(fold(h, 60), bytes);
        }
        x.due(h, "digest");
    }

    private ToldTests() {
    }
}
