/** Terms: what a POLE BEARS, its LOAD, what HOLDS, YEARS, DEEDS, what is done aside. */
final class PoleTerms extends Tests {
    private static final String HIGH = "One of PEOPLE SITS on a POLE as HIGH as one is DEVOUT, or as the POLE is TALL, if that is less: the "
        + "LOAD is the WEIGHT and half (cut) of how HIGH, all of these together.";
    private static final String FIRST = "YEAR 0 it is at first, nobody is up, there is no WEAR, no STONE.";
    private static final String HOLDS = "A POLE HOLDS, if its LOAD is no more than it BEARS.";
    private static final String GIVES = "A YEAR passes: each POLE that does not HOLD GIVES (it is DOWN, for ever; who SITS on it is on the "
        + "ground again);";
    private static final String WEARS = "each other one that is up has 1 of WEAR more, and 1 more besides, if somebody SITS on it (20 at "
        + "most).";
    private static final String DONE = "What is done: one goes up a POLE (whether it HOLDS or not), comes down, a POLE is LACED (WEAR 0 "
        + "again), a STONE is brought (it lies in the heap), a YEAR passes.";
    private static final String FORTY = "These are DEEDS (40 at most).";
    private static final String ANEW = "seatings (aside: all PEOPLE anew on POLES that are up, or on the ground; WEAR as now).";
    private static final String TRIPLES = "what a pole is of (a ROW of triples: WEAR 0 .. 20, a LOAD 0 .. 99, 1 or 0: it HELD that, or not).";

    // ---- what a POLE BEARS

    /** From WEAR 0 on; where fewer than 21 are told, the last one is so up to WEAR 20. */
    private static void bearsBy(String pole, int... want) {
        Nave x = Nave.by(pole + "m10");
        for (int wear = 0; wear <= 20; wear++) {
            int due = want[Math.min(wear, want.length - 1)];
            x.due(due, "bears", 0, wear).tells(1, due, "pole", 0, 4).due(0, "year");
        }
    }

    @Says(promise = TERMS, sentence = "With so much WEAR a POLE BEARS as much as it is STRONG, less 2 for each of WEAR (0 at least);")
    static void bearsOfPole() {
        bearsBy("p720", 20, 18, 16, 14, 12, 10, 8, 6, 4, 2, 0);
        bearsBy("p119", 19, 17, 15, 13, 11, 9, 7, 5, 3, 1, 0);
        bearsBy("p160", 60, 58, 56, 54, 52, 50, 48, 46, 44, 42, 40, 38, 36, 34, 32, 30, 28, 26, 24, 22, 20);
        bearsBy("p941", 41, 39, 37, 35, 33, 31, 29, 27, 25, 23, 21, 19, 17, 15, 13, 11, 9, 7, 5, 3, 1);
        bearsBy("p940", 40, 38, 36, 34, 32, 30, 28, 26, 24, 22, 20, 18, 16, 14, 12, 10, 8, 6, 4, 2, 0);
        bearsBy("p939", 39, 37, 35, 33, 31, 29, 27, 25, 23, 21, 19, 17, 15, 13, 11, 9, 7, 5, 3, 1, 0);
        bearsBy("p500", 0);
        bearsBy("p501", 1, 0);
        bearsBy("p502", 2, 0);
        bearsBy("p503", 3, 1, 0);
    }

    @Says(promise = TERMS, sentence = "a ROTTEN one a third (cut) less than that, if WEAR is 3 or more;")
    static void bearsOfRotten() {
        bearsBy("r720", 20, 18, 16, 10, 8, 7, 6, 4, 3, 2, 0);
        bearsBy("r119", 19, 17, 15, 9, 8, 6, 5, 4, 2, 1, 0);
        bearsBy("r960", 60, 58, 56, 36, 35, 34, 32, 31, 30, 28, 27, 26, 24, 23, 22, 20, 19, 18, 16, 15, 14);
        bearsBy("r508", 8, 6, 4, 2, 0);
        bearsBy("r507", 7, 5, 3, 1, 0);
        bearsBy("r509", 9, 7, 5, 2, 1, 0);
        bearsBy("r500", 0);
    }

    @Says(promise = TERMS, sentence = "a LACED one 1 less for each of WEAR instead of 2;")
    static void bearsOfLaced() {
        bearsBy("l720", 20, 19, 18, 17, 16, 15, 14, 13, 12, 11, 10, 9, 8, 7, 6, 5, 4, 3, 2, 1, 0);
        bearsBy("l121", 21, 20, 19, 18, 17, 16, 15, 14, 13, 12, 11, 10, 9, 8, 7, 6, 5, 4, 3, 2, 1);
        bearsBy("l919", 19, 18, 17, 16, 15, 14, 13, 12, 11, 10, 9, 8, 7, 6, 5, 4, 3, 2, 1, 0);
        bearsBy("l503", 3, 2, 1, 0);
        bearsBy("l500", 0);
    }

    @Says(promise = TERMS, sentence = "a SPLICED one as a LACED one, 5 less (0 at least);")
    static void bearsOfSpliced() {
        bearsBy("s720", 15, 14, 13, 12, 11, 10, 9, 8, 7, 6, 5, 4, 3, 2, 1, 0);
        bearsBy("s125", 20, 19, 18, 17, 16, 15, 14, 13, 12, 11, 10, 9, 8, 7, 6, 5, 4, 3, 2, 1, 0);
        bearsBy("s926", 21, 20, 19, 18, 17, 16, 15, 14, 13, 12, 11, 10, 9, 8, 7, 6, 5, 4, 3, 2, 1);
        bearsBy("s506", 1, 0);
        bearsBy("s505", 0);
        bearsBy("s504", 0);
        bearsBy("s500", 0);
    }

    @Says(promise = TERMS, sentence = "a RIDGE as a LACED one, and twice as much as it is TALL more;")
    static void bearsOfRidge() {
        bearsBy("d103", 5, 4, 3, 2);
        bearsBy("d903", 21, 20, 19, 18);
        bearsBy("d800", 16);
        bearsBy("d521", 31, 30, 29, 28, 27, 26, 25, 24, 23, 22, 21, 20, 19, 18, 17, 16, 15, 14, 13, 12, 11);
        bearsBy("d519", 29, 28, 27, 26, 25, 24, 23, 22, 21, 20, 19, 18, 17, 16, 15, 14, 13, 12, 11, 10);
        for (int tall = 1; tall <= 9; tall++) {
            Nave.by("d" + tall + "60m10").due(60 + 2 * tall, "bears", 0, 0).due(40 + 2 * tall, "bears", 0, 20);
        }
    }

    @Says(promise = TERMS, sentence = "an OAK as a ROTTEN one, but as a POLE if it is TALL by 5 or less.")
    static void bearsOfOak() {
        bearsBy("k120", 20, 18, 16, 14, 12, 10, 8, 6, 4, 2, 0);
        bearsBy("k420", 20, 18, 16, 14, 12, 10, 8, 6, 4, 2, 0);
        bearsBy("k520", 20, 18, 16, 14, 12, 10, 8, 6, 4, 2, 0);
        bearsBy("k620", 20, 18, 16, 10, 8, 7, 6, 4, 3, 2, 0);
        bearsBy("k720", 20, 18, 16, 10, 8, 7, 6, 4, 3, 2, 0);
        bearsBy("k919", 19, 17, 15, 9, 8, 6, 5, 4, 2, 1, 0);
        bearsBy("k500", 0);
        bearsBy("k600", 0);
    }

    // ---- how HIGH, the LOAD

    @Says(promise = TERMS, sentence = HIGH)
    static void highAsDevoutOrTall() {
        for (int tall = 1; tall <= 9; tall++) {
            for (int devout = 0; devout <= 9; devout++) {
                int high = devout > tall ? tall : devout;
                Nave x = Nave.by("d" + tall + "20m4" + devout).due(4 + high / 2, "sit", 0, 0).tells(1, high, "one", 0, 3);
                x.tells(1, 4 + high / 2, "pole", 0, 5).due(high, "count", 6).tells(high, 0, "later", 0).due(high, "best", 0);
                x.fill(0, 0).tells(0, high, "seated", 0).aside(high, "duel", 0).tellsParts(high, 1, "mid", 0).due(high, "down", 0);
                x.tells(1, 0, "one", 0, 3).tells(1, 0, "pole", 0, 5).due(0, "count", 6);
            }
        }
    }

    /** Of two that are HIGH by odd numbers, half is cut for each. */
    @Says(promise = TERMS, sentence = HIGH)
    static void loadOfAllTogether() {
        Nave x = Nave.by("p560 m15 m25 m33 m47 m90").due(3, "sit", 0, 0).due(7, "sit", 1, 0).due(11, "sit", 2, 0).due(17, "sit", 3, 0);
        x.due(26, "sit", 4, 0).tells(1, 26, "pole", 0, 5).tells(1, 31, "pole", 0, 6).due(18, "count", 6);
        x.due(5, "down", 1).tells(1, 22, "pole", 0, 5);
        Nave.by("p508 m25 m25").sits(0, 0).sits(1, 0).tells(1, 0, "holds").due(10, "best", 0).tells(1, 1, "fewest");
        Nave.by("p507 m25 m25").sits(0, 0).sits(1, 0).tells(0, 1, "holds").due(5, "best", 0).refuses(NONE, "fewest");
        Nave.by("p560 m11").due(1, "sit", 0, 0);
        Nave.by("p560 m12").due(2, "sit", 0, 0);
        Nave.by("p960 m13").due(2, "sit", 0, 0);
        Nave.by("p960 m98").due(13, "sit", 0, 0);
        Nave.by("p960 m99").due(13, "sit", 0, 0);
    }

    @Says(promise = TERMS, sentence = FIRST)
    static void asItIsAtFirst() {
        Nave x = Nave.by("p510 s609 m35 m46").due(0, "count", 3).due(0, "count", 5).due(0, "count", 7).due(0, "count", 2);
        for (int k = 0; k < 2; k++) {
            x.tells(1, 0, "pole", k, 3).tells(1, 0, "pole", k, 5).tells(1, 0, "pole", k, 6).tells(1, 0, "pole", k, 7);
        }
        x.tells(1, NONE, "one", 0, 2).tells(1, NONE, "one", 1, 2).due(0, "year").due(1, "count", 3).due(1, "stone").due(1, "lace", 0);
    }

    // ---- what HOLDS

    /** A LOAD of 5 on what bears 4, 5, 6; what each call that speaks of HOLDING says of it. */
    @Says(promise = TERMS, sentence = HOLDS)
    static void holdsOfEachCall() {
        for (int bears = 4; bears <= 6; bears++) {
            boolean well = bears >= 5;
            Nave x = Nave.by("p50" + bears + "m35").aside(well ? 5 : 0, "duel", 1).due(well ? 5 : 0, "best", 1).rowIs(1, well ? 0 : NONE);
            x.due(well ? 1 : NONE, "fewest").fill(2, 0).tells(well ? 0 : 1, 5, "seated", 2).due(5, "sit", 0, 0);
            x.tells(well ? 1 : 0, well ? 0 : 1, "holds").due(well ? 2 : 1, "gives", 0);
            x.tells(well ? 5 : 0, well ? 0 : 1, "later", 1).due(well ? 0 : NONE, "laces", 1, 1).aside(well ? 5 : 0, "duel", 0);
            x.tellsParts(well ? 1 : 0, 1, "odds", 0, 0).tellsParts(well ? 5 : 0, 1, "mid", 0);
            x.due(well ? 0 : 1, "year").due(well ? 0 : 1, "count", 4).due(well ? 1 : 0, "count", 5);
        }
    }

    @Says(promise = TERMS, sentence = HOLDS)
    static void holdsOfTrials() {
        Nave x = Nave.by("p520 m10").fill(1, 0, 19, 1).due(63 - 8, "kinds", 0, 1).fill(1, 0, 20, 1).due(55, "kinds", 0, 1);
        x.fill(1, 0, 21, 1).due(16, "kinds", 0, 1).fill(1, 0, 21, 0).due(47, "kinds", 0, 1).fill(1, 0, 20, 0).due(8, "kinds", 0, 1);
        x.fill(1, 0, 20, 1).tells(41, 20, "strengths", 0, 1).fill(1, 0, 20, 0).tells(20, 0, "strengths", 0, 1);
        x.due(0, "row", 1, 0).tells(16, 5, "test", 0, 1);
    }

    /** A LOAD of nothing holds on what bears nothing. */
    @Says(promise = TERMS, sentence = HOLDS)
    static void holdsOfNothing() {
        Nave x = Nave.by("p500 s505 m10").tells(3, 0, "holds").due(NONE, "gives", 0).tells(0, 0, "later", 40).due(0, "year");
        x.tells(3, 0, "holds").fill(1, NONE).tells(0, 0, "seated", 1).due(0, "laces", 5, 1).due(0, "best", 1).due(NONE, "fewest");
    }

    // ---- YEARS

    @Says(promise = TERMS, sentence = GIVES)
    static void yearInWhichPolesGive() {
        Nave x = Nave.by("p560 p503 r560 p504 m38 m31 m41 m40").sits(0, 0).sits(2, 1).sits(3, 3).due(2, "year");
        x.tells(1, 1, "pole", 1, 7).tells(1, NONE, "one", 2, 2).tells(1, 3, "one", 3, 2).tells(1, 0, "pole", 1, 3).due(8, "year");
        x.tells(1, NONE, "one", 3, 2).tells(1, 2, "pole", 3, 3).due(0, "year").due(10, "count", 4).due(1, "count", 5);
    }

    @Says(promise = TERMS, sentence = GIVES)
    static void downForEver() {
        Nave x = Nave.by("p500 p560 m10 m10").sits(0, 0).due(1, "year").refuses(STATE, "sit", 0, 0).refuses(STATE, "lace", 0);
        x.years(20).stones(2).due(1, "count", 4).refuses(STATE, "sit", 1, 0).refuses(STATE, "lace", 0).tells(1, 0, "pole", 0, 3);
        x.due(1, "sit", 0, 1).due(0, "year").tells(1, 1, "pole", 0, 7).tells(2, 0, "holds").tells(0, 1, "later", 40);
        x.fill(1, 0, NONE).finds(UNLIKE, "seated", 1).due(0, "best", 1).rowIs(1, NONE, NONE).tells(1, 2, "fewest");
        x.aside(NONE, "gives", 0).tellsParts(0, 1, "odds", 1, 0);
    }

    /** One that gave by a LOAD of 10 would bear 9 yet, and each of the two is a LOAD of 5. */
    @Says(promise = TERMS, sentence = GIVES)
    static void downThoughItWouldBear() {
        Nave x = Nave.by("p509 p500 m35 m35").sits(0, 0).sits(1, 0).due(1, "year").tells(1, 9, "pole", 0, 4).tells(2, 0, "holds");
        x.due(0, "best", 1).rowIs(1, NONE, NONE).refuses(NONE, "fewest").fill(1, 0, NONE).finds(UNLIKE, "seated", 1);
        x.aside(0, "duel", 0).aside(0, "duel", 1).aside(0, "duel", 2).aside(0, "duel", 3).aside(0, "duel", 4);
        x.due(0, "laces", 5, 1).rowIs(1, NONE, NONE, NONE, NONE, NONE).aside(NONE, "gives", 0).tells(0, 1, "later", 1);
        x.tellsParts(0, 1, "odds", 0, 0).tellsParts(0, 1, "mid", 0).refuses(STATE, "sit", 0, 0).refuses(STATE, "lace", 0);
        x.due(0, "lots", 1, 10).due(1, "count", 7).due(0, "count", 5);
    }

    @Says(promise = TERMS, sentence = GIVES)
    static void allWhoSitOnItAreOnTheGround() {
        Nave x = Nave.by("p524 p560 m15 m25 m35 m45 m55").sits(0, 0).sits(1, 0).sits(2, 0).sits(3, 0).sits(4, 0);
        x.tells(1, 25, "pole", 0, 5).due(1, "year").due(0, "count", 5).due(0, "count", 6);
        x.tells(1, 0, "pole", 0, 5).tells(1, 0, "pole", 0, 6);
        for (int i = 0; i < 5; i++) {
            x.tells(1, NONE, "one", i, 2);
        }
        Nave y = Nave.by("p525 p560 m15 m25 m35 m45 m55").sits(0, 0).sits(1, 0).sits(2, 0).sits(3, 0).sits(4, 0);
        y.due(0, "year").due(31, "count", 5).tells(1, 2, "pole", 0, 3);
    }

    @Says(promise = TERMS, sentence = WEARS)
    static void wearOfOneOrTwo() {
        Nave x = Nave.by("p560 p560 r560 m38 m10 m10").sits(0, 0).sits(1, 1).sits(2, 1);
        for (int years = 1; years <= 3; years++) {
            x.due(0, "year").tells(1, 2 * years, "pole", 0, 3).tells(1, 2 * years, "pole", 1, 3).tells(1, years, "pole", 2, 3);
        }
        x.due(5, "down", 0).due(0, "down", 1).due(0, "year").tells(1, 7, "pole", 0, 3).tells(1, 8, "pole", 1, 3).due(0, "down", 2);
        x.due(0, "year").tells(1, 8, "pole", 0, 3).tells(1, 9, "pole", 1, 3).tells(1, 5, "pole", 2, 3);
    }

    /** WEAR 0, 1, 2, 3 on four POLES alike, which bear 9, 7, 5, 3 then. */
    private static Nave fourWears(String pole, String people) {
        Nave x = Nave.by(pole.repeat(4) + people).years(1).due(1, "lace", 2).years(1).due(2, "lace", 1).years(1).due(3, "lace", 0);
        for (int k = 0; k < 4; k++) {
            x.tells(1, k, "pole", k, 3);
        }
        return x;
    }

    @Says(promise = TERMS, sentence = WEARS)
    static void wearOfEachPoleItself() {
        Nave x = fourWears("p509", "m35m35m35m35").due(15, "best", 1).rowIs(1, NONE, 0, 1, 2).refuses(NONE, "fewest");
        x.fill(2, 0, 1, 2, 3).tells(1, 20, "seated", 2).fill(2, 2, 1, NONE, NONE).tells(0, 10, "seated", 2);
        x.sits(0, 0).sits(1, 1).sits(2, 2).tells(15, 0, "holds").aside(15, "duel", 1).sits(3, 3).tells(7, 2, "holds");
        x.aside(3, "gives", 0).aside(2, "gives", 1).aside(2, "gives", 2).aside(1, "gives", 3).tells(15, 8, "later", 1);
        x.tells(5, 14, "later", 2).tells(0, 15, "later", 3).due(1, "laces", 1, 1).rowIs(1, 3).refuses(NONE, "laces", 2, 1);
        x.tellsParts(1, 1, "odds", 2, 0).tellsParts(0, 1, "odds", 3, 0).tellsParts(15, 1, "mid", 0).due(8, "year").due(6, "year");
        Nave rotten = fourWears("r620", "m10");
        for (int k = 0; k < 4; k++) {
            rotten.aside(k < 3 ? 0 : 4, "mark", k, ROTTEN);
        }
        Nave spliced = fourWears("s606", "m10").aside(5, "mark", 0, SPLICED).aside(5, "mark", 1, SPLICED).aside(4, "mark", 2, SPLICED);
        spliced.aside(3, "mark", 3, SPLICED).due(0, "row", 1, 0).tells(2, 5, "test", 0, 1).tells(5, 4, "test", 1, 1);
        spliced.tells(3, 4, "test", 2, 1).tells(1, 4, "test", 3, 1);
    }

    @Says(promise = TERMS, sentence = WEARS)
    static void wearOfTwentyAtMost() {
        Nave x = Nave.by("d930 d930 p110 m10 m10").sits(1, 1).years(1).sits(0, 0).years(8).tells(1, 17, "pole", 0, 3).years(1);
        x.tells(1, 19, "pole", 0, 3).tells(1, 20, "pole", 1, 3).tells(1, 10, "pole", 2, 3).years(1).tells(1, 20, "pole", 0, 3);
        x.tells(1, 20, "pole", 1, 3).years(1).tells(1, 20, "pole", 0, 3).years(6).tells(1, 18, "pole", 2, 3).years(1);
        x.tells(1, 19, "pole", 2, 3).years(1).tells(1, 20, "pole", 2, 3).years(1).tells(1, 20, "pole", 2, 3);
        x.tells(1, 28, "pole", 0, 4).due(21, "count", 3).due(0, "count", 4);
    }

    /** What would give with more WEAR than 20, and doesn't: l124 bears 4 then, p144 bears 4. */
    @Says(promise = TERMS, sentence = WEARS)
    static void wearOfTwentyAtMostAside() {
        for (String pole : new String[] {"l124", "p144", "d122", "s129"}) {
            Nave x = Nave.by(pole + "m40").sits(0, 0).due(NONE, "gives", 0).tells(0, 0, "later", 40).years(9).due(NONE, "gives", 0);
            x.due(0, "laces", 5, 1).years(1).tells(1, 20, "pole", 0, 3).due(NONE, "gives", 0).tells(0, 0, "later", 40);
            x.due(0, "laces", 5, 1).years(5).tells(1, 20, "pole", 0, 3).due(0, "count", 4);
        }
        for (String pole : new String[] {"l123", "p143", "d121", "s128"}) {
            Nave x = Nave.by(pole + "m40").sits(0, 0).due(11, "gives", 0).tells(0, 0, "later", 10).tells(0, 1, "later", 11).years(9);
            x.due(1, "laces", 5, 1).rowIs(1, NONE, 0, NONE, NONE, NONE).years(1).due(1, "gives", 0).due(1, "year");
        }
    }

    // ---- DEEDS

    @Says(promise = TERMS, sentence = DONE)
    static void whatIsDone() {
        Nave x = Nave.by("p504 p560 m35 m10").due(5, "sit", 0, 0).tells(2, 1, "holds").due(6, "sit", 1, 0).due(0, "down", 1);
        x.due(5, "down", 0).due(0, "year").tells(1, 1, "pole", 0, 3).due(1, "lace", 0).tells(1, 0, "pole", 0, 3);
        x.tells(1, 1, "pole", 1, 3).due(1, "stone").due(1, "count", 7).due(2, "stone").due(2, "count", 7).due(1, "count", 3);
        x.due(8, "count", 2);
        Nave none = Nave.by("p500 m35").due(5, "sit", 0, 0).tells(1, 0, "one", 0, 2).tells(0, 5, "holds");
        none.due(1, "count", 2);
    }

    @Says(promise = TERMS, sentence = FORTY)
    static void fortyDeedsAtMost() {
        String[] calls = {"sit", "down", "lace", "stone", "year", "lots"};
        int[][] numbers = {{1, 0}, {0}, {0}, {}, {}, {1, 1}};
        for (int j = 0; j < calls.length; j++) {
            for (int deeds = 38; deeds <= 40; deeds++) {
                Nave x = Nave.by("p560 m38 m27").sits(0, 0).deeds(deeds);
                if (deeds == 40) {
                    x.refuses(FULL, calls[j], numbers[j]);
                } else {
                    Check.due(calls[j] + " behind " + deeds + " deeds is refused", x.call(calls[j], numbers[j]) < 0 ? 1 : 0, 0);
                    x.due(deeds + 1, "count", 2);
                }
            }
        }
        Nave.by("p560 m38").years(40).refuses(FULL, "year").due(40, "count", 3);
        Nave up = Nave.by("p560 m38");
        for (int j = 0; j < 20; j++) {
            up.due(5, "sit", 0, 0).due(5, "down", 0);
        }
        up.refuses(FULL, "sit", 0, 0).due(40, "count", 2);
    }

    /** Behind 40 DEEDS all that is no DEED goes on. */
    @Says(promise = TERMS, sentence = FORTY)
    static void noDeedsBehindForty() {
        Nave x = Nave.by("p510 m35").sits(0, 0).deeds(40).tells(1, 5, "pole", 0, 5).tells(1, 0, "holds").due(3, "gives", 0);
        x.tells(0, 1, "later", 3).due(5, "best", 0).tells(1, 1, "fewest").tells(0, 5, "seated", 0).due(2, "laces", 5, 0);
        x.aside(5, "duel", 3).tellsParts(3, 4, "odds", 0, 3).due(1, "mid", 3).due(40, "keep", 0).due(40, "on", 0).due(0, "undo", 40);
        x.due(1, "nave", 0).due(0, "count", 2).due(1, "stone");
    }

    // ---- aside

    /** Whatever is asked aside, many times, the nave is as it was. */
    private static void leavesAll(String[] calls, int[][] numbers) {
        Nave x = Nave.by("p510 r605 l400 d301 m35 m46 m28 m19").fill(0, 1, 1, 0, 3).sits(0, 0).sits(1, 2).due(4, "year").sits(2, 1);
        x.call("best", 1);
        x.call("laces", 5, 2);
        long digest = x.call("digest");
        for (int j = 0; j < calls.length; j++) {
            x.call(calls[j], numbers[j]);
            x.call(calls[j], numbers[j]);
            x.due(digest, "digest").due(4, "count", 2);
        }
        x.due(1, "undo", 3).due(3, "count", 2).due(1, "count", 3);
    }

    @Says(promise = TERMS, sentence = "what holds (aside).")
    static void asideOfWhatHolds() {
        leavesAll(new String[] {"holds", "gives", "gives", "later", "later"}, new int[][] {{}, {0}, {1}, {0}, {40}});
    }

    @Says(promise = TERMS, sentence = ANEW)
    static void asideOfSeatings() {
        leavesAll(new String[] {"best", "fewest", "seated"}, new int[][] {{1}, {}, {0}});
    }

    @Says(promise = TERMS, sentence = "lacings (aside).")
    static void asideOfLacings() {
        leavesAll(new String[] {"laces"}, new int[][] {{5, 2}});
    }

    @Says(promise = TERMS, sentence = ANEW)
    static void allPeopleAnew() {
        Nave x = Nave.by("p510 p510 m35 m35").sits(0, 0).sits(1, 0).due(10, "best", 1).rowIs(1, 0, 0).tells(1, 1, "fewest");
        x.fill(2, 1, NONE).tells(0, 5, "seated", 2).fill(2, NONE, NONE).tells(0, 0, "seated", 2);
        Nave all = Nave.by("p504 m35").sits(0, 0).tells(0, 1, "holds").due(0, "best", 1).rowIs(1, NONE).fill(2, NONE);
        all.tells(0, 0, "seated", 2);
    }

    @Says(promise = TERMS, sentence = ANEW)
    static void onPolesThatAreUp() {
        Nave x = Nave.by("p500 p510 m35 m35").sits(0, 0).due(1, "year").due(5, "best", 1).rowIs(1, NONE, 1).refuses(NONE, "fewest");
        x.due(1, "lace", 1).due(10, "best", 1).rowIs(1, 1, 1).tells(1, 2, "fewest").fill(2, 1, 1).tells(0, 10, "seated", 2);
        x.fill(2, 0, 1).finds(UNLIKE, "seated", 2).due(3, "undo", 0).tells(1, 10, "seated", 2);
    }

    @Says(promise = TERMS, sentence = ANEW)
    static void wearAsNow() {
        Nave x = Nave.by("p507 m35").due(5, "best", 1).tells(1, 1, "fewest").fill(2, 0).tells(0, 5, "seated", 2).years(1);
        x.due(5, "best", 1).tells(1, 1, "fewest").tells(0, 5, "seated", 2).years(1).due(0, "best", 1).refuses(NONE, "fewest");
        x.tells(1, 5, "seated", 2).due(2, "lace", 0).due(5, "best", 1).tells(1, 1, "fewest").tells(0, 5, "seated", 2);
    }

    @Says(promise = TERMS, sentence = TRIPLES)
    static void triplesOfEachCall() {
        String[] calls = {"strengths", "kinds", "test"};
        int[][] well = {{0, 0, 1}, {20, 0, 1}, {0, 99, 0}, {20, 99, 0}, {19, 1, 0}, {1, 98, 0}};
        int[][] none = {{-1, 0, 1}, {21, 0, 1}, {0, -1, 1}, {0, 100, 0}, {0, 0, -1}, {0, 0, 2}};
        for (String call : calls) {
            Nave x = Nave.by("p510 m35");
            for (int[] triple : well) {
                x.fill(1, triple).call(call, 0, 1);
                x.due(0, "finding");
            }
            for (int[] triple : none) {
                x.fill(1, triple).finds(UNLIKE, call, 0, 1);
            }
        }
    }

    /** 39 places are 13 triples, the most that there can be; the last one counts. */
    @Says(promise = TERMS, sentence = TRIPLES)
    static void triplesOfAFullRow() {
        Nave x = Nave.by("p720 m10").due(39, "row", 1, 39);
        for (int i = 2; i < 39; i += 3) {
            x.call("lay", 1, i, 1);
        }
        x.tells(61, 0, "strengths", 0, 1).due(63, "kinds", 0, 1).tells(16, 5, "test", 0, 1).tells(1, 0, "lay", 1, 37, 34);
        x.tells(27, 34, "strengths", 0, 1).due(16, "kinds", 0, 1).tells(0, 1, "test", 0, 1).tells(1, 1, "lay", 1, 38, 2);
        x.finds(UNLIKE, "strengths", 0, 1).finds(UNLIKE, "kinds", 0, 1).finds(UNLIKE, "test", 0, 1);
    }

    private PoleTerms() {
    }
}
