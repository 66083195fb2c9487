/** Promises 34 to 37: by turns, chances, lots. */
final class ChanceTests extends Tests {
    private static final String DUEL = "By n (0 .. 4) turns in all one school has one who is on the ground go up a POLE that is up, or "
        + "nobody, then another one has one come down, or nobody: how HIGH all are together at last, the first wanting much, the second "
        + "little (POLES that do not HOLD count 0).";
    private static final String ODDS = "Chances that one of PEOPLE stays up, if each POLE that is up GIVES by p (0 .. 12) of 12, and one "
        + "that does not HOLD anyway, each by itself: 1.";
    private static final String NUMBERS = "n (1 .. 20) DEEDS truly by LOTS of a seed: a number comes from the one ahead by 48271 times it "
        + "modulo 2147483647, the first from the seed (1 .. 2147483646):";
    private static final String DEEDS = "if it modulo 3 is 0, a YEAR passes; else the one of PEOPLE that it by 8, cut, modulo how many there "
        + "are is comes down, if up; else goes up the POLE that it by 64, cut, modulo how many there are is, if that is not DOWN; else a "
        + "STONE is brought:";
    private static final int LAST_SEED = 2147483646;

    // ---- 34 duel

    private static Nave duelsAre(Nave x, int... want) {
        for (int n = 0; n < want.length; n++) {
            x.aside(want[n], "duel", n);
        }
        return x;
    }

    @Says(promise = 34, sentence = DUEL)
    static void duelOfNoneToFourTurns() {
        Nave x = duelsAre(Nave.by("p510 m35 m46 m28"), 0, 5, 0, 5, 0);
        duelsAre(x.sits(0, 0).sits(2, 0), 10, 10, 5, 10, 5);
        duelsAre(x.sits(1, 0), 0, 0, 0, 0, 0);
        duelsAre(Nave.by("p510 p310 m35 m46 m28").sits(0, 0), 5, 10, 5, 10, 5);
    }

    @Says(promise = 34, sentence = DUEL)
    static void duelByOneMoreOrLess() {
        duelsAre(duelsAre(Nave.by("p504 m35"), 0, 0, 0, 0, 0).sits(0, 0), 0, 0, 0, 0, 0);
        duelsAre(duelsAre(Nave.by("p505 m35"), 0, 5, 0, 5, 0).sits(0, 0), 5, 5, 0, 5, 0);
        duelsAre(duelsAre(Nave.by("p506 m35"), 0, 5, 0, 5, 0).sits(0, 0), 5, 5, 0, 5, 0);
        duelsAre(Nave.by("p506 m35").years(1), 0, 0, 0, 0, 0);
    }

    @Says(promise = 34, sentence = DUEL)
    static void duelOrNobody() {
        Nave x = duelsAre(Nave.by("p505 m35 m10").sits(0, 0), 5, 5, 0, 5, 0);
        duelsAre(x.sits(1, 0), 0, 0, 0, 0, 0);
        duelsAre(Nave.by("p505 m11 m25").sits(0, 0).sits(1, 0), 6, 6, 1, 6, 1);
        duelsAre(Nave.by("p500 p960 m35 m35").sits(0, 1).sits(1, 1), 10, 10, 5, 10, 5);
    }

    @Says(promise = 34, sentence = DUEL)
    static void duelOfTheLastOneOnTheLastPole() {
        duelsAre(duelsAre(Nave.by("p900 p505 m90 m34"), 0, 4, 0, 4, 0).sits(1, 1), 4, 4, 0, 4, 0);
        duelsAre(Nave.by("p900 p900 p900 p505 m90 m90 m90 m90 m34"), 0, 4, 0, 4, 0);
        Nave fallen = Nave.by("p500 p505 m19 m19").sits(0, 0).due(1, "year");
        duelsAre(fallen, 0, 5, 0, 5, 0);
        duelsAre(Nave.by("p500 m19 m19").sits(0, 0).years(1), 0, 0, 0, 0, 0);
    }

    @Says(promise = 34, sentence = "BAD;")
    static void duelOfMoreThanFourTurns() {
        Nave x = Nave.by("p510 m35").sits(0, 0);
        for (int n : outside(0, 4)) {
            x.refuses(BAD, "duel", n);
        }
        x.aside(5, "duel", 0).aside(0, "duel", 4);
        new Nave().refuses(BAD, "duel", -1).refuses(BAD, "duel", 5);
    }

    @Says(promise = 34, sentence = "STATE: no POLES.")
    static void duelWithoutPoles() {
        Nave x = new Nave().refuses(STATE, "duel", 0).refuses(STATE, "duel", 4).write(0, "p510m35").refuses(STATE, "duel", 1);
        x.due(1, "nave", 0).aside(5, "duel", 1);
    }

    // ---- 35 odds

    @Says(promise = 35, sentence = ODDS)
    static void oddsByNoneToTwelve() {
        Nave x = Nave.by("p510 p504 m35 m46 m28").tellsParts(0, 1, "odds", 0, 3).sits(0, 0).sits(1, 1);
        int[][] lowest = {
            {1, 1}, {11, 12}, {5, 6}, {3, 4}, {2, 3}, {7, 12}, {1, 2}, {5, 12}, {1, 3}, {1, 4}, {1, 6}, {1, 12}, {0, 1},
        };
        long digest = x.call("digest");
        for (int p = 0; p <= 12; p++) {
            x.tellsParts(lowest[p][0], lowest[p][1], "odds", 0, p).tellsParts(0, 1, "odds", 1, p).tellsParts(0, 1, "odds", 2, p);
        }
        x.due(digest, "digest").due(0, "asked");
    }

    @Says(promise = 35, sentence = ODDS)
    static void oddsByOneMoreOrLess() {
        Nave.by("p504 m35").sits(0, 0).tellsParts(0, 1, "odds", 0, 0).tellsParts(0, 1, "odds", 0, 11);
        Nave.by("p505 m35").sits(0, 0).tellsParts(1, 1, "odds", 0, 0).tellsParts(1, 12, "odds", 0, 11);
        Nave.by("p506 m35").sits(0, 0).tellsParts(1, 1, "odds", 0, 0).tellsParts(1, 12, "odds", 0, 11);
        Nave x = Nave.by("p506 m35").sits(0, 0).years(1).tellsParts(0, 1, "odds", 0, 0).due(2, "lace", 0);
        x.tellsParts(1, 1, "odds", 0, 0).due(5, "down", 0).tellsParts(0, 1, "odds", 0, 0);
    }

    @Says(promise = 35, sentence = "BAD.")
    static void oddsOfOneWhoThereIsNot() {
        for (int people = 1; people <= 5; people++) {
            Nave x = Nave.by("d510" + "m20".repeat(people)).sits(people - 1, 0).tellsParts(3, 4, "odds", people - 1, 3);
            for (int i : outside(0, people - 1)) {
                x.refuses(BAD, "odds", i, 0).refuses(BAD, "odds", i, 13);
            }
        }
        new Nave().refuses(BAD, "odds", 0, 0).refuses(BAD, "odds", 0, 12).refuses(BAD, "odds", -1, 0);
    }

    @Says(promise = 35, sentence = "BAD.")
    static void oddsByMoreThanTwelve() {
        Nave x = Nave.by("p510 m35 m20").sits(0, 0).tellsParts(3, 4, "odds", 0, 3);
        for (int p : outside(0, 12)) {
            x.refuses(BAD, "odds", 0, p).refuses(BAD, "odds", 1, p);
        }
        x.tellsParts(1, 1, "odds", 0, 0).tellsParts(0, 1, "odds", 0, 12);
    }

    // ---- 36 mid

    @Says(promise = 36, sentence = "The mean of how HIGH all are together so: 1.")
    static void midOfAllTogether() {
        Nave x = Nave.by("p510 p504 d310 m35 m46 m28").tellsParts(0, 1, "mid", 5).sits(0, 0).sits(2, 2);
        x.tellsParts(8, 1, "mid", 0).tellsParts(22, 3, "mid", 1).tellsParts(6, 1, "mid", 3).tellsParts(14, 3, "mid", 5);
        x.tellsParts(2, 3, "mid", 11).tellsParts(0, 1, "mid", 12).sits(1, 1);
        long digest = x.call("digest");
        x.tellsParts(8, 1, "mid", 0).tellsParts(2, 3, "mid", 11).due(digest, "digest").due(0, "asked").years(3);
        x.tellsParts(5, 4, "mid", 7).sits(1, 2).tellsParts(5, 2, "mid", 7).tellsParts(6, 1, "mid", 0).tellsParts(0, 1, "mid", 12);
    }

    @Says(promise = 36, sentence = "The mean of how HIGH all are together so: 1.")
    static void midByOneMoreOrLess() {
        Nave.by("p504 m35").sits(0, 0).tellsParts(0, 1, "mid", 0).tellsParts(0, 1, "mid", 11);
        Nave.by("p505 m35").sits(0, 0).tellsParts(5, 1, "mid", 0).tellsParts(5, 12, "mid", 11);
        Nave.by("p506 m35").sits(0, 0).tellsParts(5, 1, "mid", 0).tellsParts(5, 12, "mid", 11);
        Nave.by("p506 m35").sits(0, 0).years(1).tellsParts(0, 1, "mid", 0);
        Nave.by("p500 p505 m35 m35").sits(0, 0).sits(1, 1).tellsParts(5, 1, "mid", 0).due(1, "year").tellsParts(0, 1, "mid", 0);
    }

    @Says(promise = 36, sentence = "BAD;")
    static void midByMoreThanTwelve() {
        Nave x = Nave.by("p510 m35 m20").sits(0, 0).tellsParts(15, 4, "mid", 3);
        for (int p : outside(0, 12)) {
            x.refuses(BAD, "mid", p);
        }
        new Nave().refuses(BAD, "mid", -1).refuses(BAD, "mid", 13);
    }

    @Says(promise = 36, sentence = "STATE: no POLES.")
    static void midWithoutPoles() {
        Nave x = new Nave().refuses(STATE, "mid", 0).refuses(STATE, "mid", 12).write(0, "p510m35").refuses(STATE, "mid", 0);
        x.due(0, "upper").due(1, "lower").due(1, "nave", 0).tellsParts(0, 1, "mid", 0);
    }

    // ---- 37 lots

    @Says(promise = 37, sentence = NUMBERS)
    static void lotsOfTheFirstAndLastSeed() {
        String[] first = "00 Y Y 11 01 10 21 21 11 21 20 21 Y Y Y Y 20 00 20 Y".split(" ");
        String[] last = "Y 10 00 Y Y 21 10 10 20 10 Y 10 01 10 21 01 11 01 11 20".split(" ");
        String[] other = "20 00 20 11 Y Y 10 Y 00 Y Y 10 Y 11 01 Y 11 Y 20 11".split(" ");
        for (int n : new int[] {1, 2, 19, 20}) {
            for (String poles : new String[] {"p560 l560", "p509 d306", "p500 p500"}) {
                lotsAre(poles + " m35 m46 m28", n, 1, first);
                lotsAre(poles + " m35 m46 m28", n, LAST_SEED, last);
                lotsAre(poles + " m35 m46 m28", n, 1000000007, other);
            }
        }
    }

    /** Lots, and the deeds that they are, one by one, must leave two naves alike. */
    private static void lotsAre(String signs, int n, int seed, String[] lots) {
        Nave x = Nave.by(signs);
        Nave y = Nave.by(signs);
        for (int j = 0; j < n; j++) {
            if (lots[j].equals("Y")) {
                y.call("year");
                continue;
            }
            int i = lots[j].charAt(0) - '0';
            int k = lots[j].charAt(1) - '0';
            if ((y.call("count", 5) >> i & 1) == 1) {
                y.call("down", i);
            } else if ((y.call("count", 4) >> k & 1) == 0) {
                y.call("sit", i, k);
            } else {
                y.call("stone");
            }
        }
        x.due(y.call("count", 6), "lots", n, seed).due(y.call("digest"), "digest").due(n, "count", 2).due(n, "undo", 0);
    }

    /** The numbers by which each seed, alone, tells: 3 a YEAR; 10 one 0, POLE 0; 13 one 0, POLE 1; 5 one 1, POLE 1. */
    @Says(promise = 37, sentence = DEEDS)
    static void lotsOfEachDeed() {
        Nave x = Nave.by("p500 p560 m35 m46");
        x.due(0, "lots", 1, 3).due(1, "count", 3).tells(1, 1, "pole", 0, 3);
        x.due(5, "lots", 1, 10).tells(1, 0, "one", 0, 2).due(0, "lots", 1, 10).tells(1, NONE, "one", 0, 2);
        x.due(5, "lots", 1, 13).tells(1, 1, "one", 0, 2).due(0, "lots", 1, 10).tells(1, NONE, "one", 0, 2);
        x.due(5, "lots", 1, 10).due(10, "lots", 1, 5).tells(1, 1, "one", 1, 2).due(5, "lots", 1, 3).due(1, "count", 4);
        x.due(5, "lots", 1, 10).due(1, "count", 7).tells(1, NONE, "one", 0, 2).due(0, "lots", 1, 1).due(1, "count", 7);
        x.due(0, "lots", 1, 1).due(2, "count", 7).due(5, "lots", 1, 13).due(0, "lots", 1, 10).due(2, "count", 7);
        x.due(13, "count", 2).due(2, "count", 3);
    }

    @Says(promise = 37, sentence = "how HIGH all are together then.")
    static void lotsTellHowHigh() {
        Nave x = Nave.by("p560 p360 m39 m18").due(5, "lots", 1, 10).due(8, "lots", 1, 5).due(8, "count", 6);
        x.due(8, "lots", 1, 3).due(3, "lots", 1, 10).due(6, "lots", 1, 13).due(0, "asked").due(0, "upper");
    }

    @Says(promise = 37, sentence = "BAD;")
    static void lotsOfMoreThanTwenty() {
        Nave x = Nave.by("p510 m35").sits(0, 0);
        for (int n : outside(1, 20)) {
            x.refuses(BAD, "lots", n, 1).refuses(BAD, "lots", n, LAST_SEED);
        }
        x.refuses(BAD, "lots", 0, 0).call("lots", 1, 1);
        x.due(2, "count", 2).call("lots", 20, 1);
        x.due(22, "count", 2);
        new Nave().refuses(BAD, "lots", 0, 1).refuses(BAD, "lots", 21, 1);
    }

    @Says(promise = 37, sentence = "BAD;")
    static void lotsOfASeedThatThereIsNot() {
        for (int n : new int[] {1, 20}) {
            Nave x = Nave.by("p510 m35").sits(0, 0);
            for (int seed : new int[] {0, -1, HIGHEST, LOWEST, LOWEST + 1, -48271, -2147483646, NONE}) {
                x.refuses(BAD, "lots", n, seed);
            }
            x.call("lots", n, 1);
            x.due(n + 1, "count", 2).due(n, "undo", 1).call("lots", n, LAST_SEED);
            x.due(n + 1, "count", 2);
        }
        new Nave().refuses(BAD, "lots", 1, 0).refuses(BAD, "lots", 1, HIGHEST);
    }

    @Says(promise = 37, sentence = "STATE: no POLES;")
    static void lotsWithoutPoles() {
        Nave x = new Nave().refuses(STATE, "lots", 1, 1).refuses(STATE, "lots", 20, LAST_SEED).write(0, "p510m35");
        x.refuses(STATE, "lots", 1, 1).due(1, "nave", 0).due(5, "lots", 1, 1);
    }

    @Says(promise = 37, sentence = "FULL: with n more there would be more than 40 DEEDS.")
    static void lotsBehindFortyDeeds() {
        for (int n : new int[] {1, 2, 19, 20}) {
            Nave x = Nave.by("p510 m35").deeds(40 - n + 1).refuses(FULL, "lots", n, 1).due(1, "undo", 40 - n);
            x.call("lots", n, 1);
            x.due(40, "count", 2).refuses(FULL, "lots", 1, 1).refuses(FULL, "lots", n, 1).refuses(FULL, "stone");
            Nave y = Nave.by("p510 m35").deeds(40 - n).refuses(n < 20 ? FULL : BAD, "lots", n + 1, 1);
            y.due(40 - n, "count", 2).deeds(40).refuses(FULL, "lots", n, LAST_SEED);
        }
    }

    @Says(promise = 37, sentence = "(FULL last.)")
    static void lotsRefusedByTheFirst() {
        Nave x = Nave.by("p510 m35").deeds(40).refuses(BAD, "lots", 0, 1).refuses(BAD, "lots", 21, 1).refuses(BAD, "lots", 1, 0);
        x.refuses(BAD, "lots", 20, HIGHEST).refuses(FULL, "lots", 1, 1).refuses(FULL, "lots", 20, LAST_SEED);
        new Nave().refuses(BAD, "lots", 21, 1).refuses(BAD, "lots", 1, 0).refuses(STATE, "lots", 20, 1);
    }

    private ChanceTests() {
    }
}
