/** Promise 30: lacings, aside. */
final class LacingTests extends Tests {
    private static final String FEWEST = "The fewest LACINGS (one POLE at most ahead of each of n, 0 .. 5, YEARS) by which no POLE that "
        + "is up GIVES in these;";
    private static final String FIRST_ROW = "which POLES come to a ROW (anew; NONE: none) by the first such row (rising; NONE least).";

    /** To a ROW that holds more, then to one that is missing. */
    private static Nave lacesAre(Nave x, int n, int want, int... places) {
        x.fill(5, 3, 3, 3, 3, 3, 3);
        int asked = (int) x.call("asked");
        int deeds = (int) x.call("count", 2);
        x.due(want, "laces", n, 5).due(asked, "asked").due(deeds, "count", 2).rowIs(5, places);
        return x.due(1, "tear", 5).due(want, "laces", n, 5).rowIs(5, places);
    }

    private static Nave lacesCanNot(Nave x, int n) {
        return x.refuses(NONE, "laces", n, 5);
    }

    @Says(promise = 30, sentence = FEWEST)
    static void lacesForNoneToFiveYears() {
        Nave x = Nave.by("p510 m35").sits(0, 0);
        lacesAre(x, 0, 0);
        lacesAre(x, 1, 0, NONE);
        lacesAre(x, 2, 0, NONE, NONE);
        lacesAre(x, 3, 1, NONE, NONE, 0);
        lacesAre(x, 4, 1, NONE, NONE, 0, NONE);
        lacesAre(x, 5, 2, NONE, NONE, 0, NONE, 0);
        x.years(1);
        lacesAre(x, 1, 0, NONE);
        lacesAre(x, 2, 1, NONE, 0);
        lacesAre(x, 5, 2, NONE, 0, NONE, 0, NONE);
    }

    @Says(promise = 30, sentence = FEWEST)
    static void lacesByOneMoreOrLess() {
        lacesCanNot(lacesAre(Nave.by("p504 m35").sits(0, 0), 0, 0), 1);
        lacesAre(lacesAre(Nave.by("p505 m35").sits(0, 0), 1, 0, NONE), 2, 1, NONE, 0);
        lacesAre(lacesAre(Nave.by("p508 m35").sits(0, 0), 1, 0, NONE), 2, 1, NONE, 0);
        lacesAre(lacesAre(Nave.by("p509 m35").sits(0, 0), 2, 0, NONE, NONE), 3, 1, NONE, NONE, 0);
        lacesAre(Nave.by("p505 m35").sits(0, 0), 5, 4, NONE, 0, 0, 0, 0);
        lacesAre(Nave.by("p505 m35").sits(0, 0).years(1), 5, 5, 0, 0, 0, 0, 0);
        lacesAre(Nave.by("p500 m35"), 5, 0, NONE, NONE, NONE, NONE, NONE);
    }

    @Says(promise = 30, sentence = FEWEST)
    static void lacesOfOnePoleAtMostAYear() {
        Nave two = Nave.by("p510p510 m35m35").sits(0, 0).sits(1, 1);
        lacesAre(two, 2, 0, NONE, NONE);
        lacesAre(two, 3, 2, NONE, 0, 1);
        lacesAre(two, 4, 3, NONE, 0, 1, 0);
        lacesAre(two, 5, 4, NONE, 0, 1, 0, 1);
        Nave tooMany = Nave.by("p510p510p510 m35m35m35").sits(0, 0).sits(1, 1).sits(2, 2);
        lacesAre(tooMany, 2, 0, NONE, NONE);
        lacesCanNot(tooMany, 3);
        Nave three = Nave.by("p514p514p514 m35m35m35").sits(0, 0).sits(1, 1).sits(2, 2);
        lacesAre(three, 4, 3, NONE, 0, 1, 2);
        lacesAre(three, 5, 4, NONE, 0, 1, 2, 0);
        Nave atOnce = Nave.by("p505p505 m35m35").sits(0, 0).sits(1, 1);
        lacesAre(atOnce, 1, 0, NONE);
        lacesCanNot(atOnce, 2);
        lacesCanNot(atOnce, 5);
    }

    @Says(promise = 30, sentence = FEWEST)
    static void lacesAtTheMostWear() {
        lacesAre(Nave.by("l124 m40").sits(0, 0).years(10), 5, 0, NONE, NONE, NONE, NONE, NONE);
        lacesAre(Nave.by("l124 m40").sits(0, 0).years(9), 5, 0, NONE, NONE, NONE, NONE, NONE);
        lacesAre(Nave.by("l123 m40").sits(0, 0).years(10), 5, 1, 0, NONE, NONE, NONE, NONE);
        lacesAre(Nave.by("l123 m40").sits(0, 0).years(9), 5, 1, NONE, 0, NONE, NONE, NONE);
        lacesAre(Nave.by("l160 m40").years(19).sits(0, 0), 2, 0, NONE, NONE);
    }

    @Says(promise = 30, sentence = FEWEST)
    static void lacesOfThoseThatAreUp() {
        Nave x = Nave.by("p504p510 m35m91").sits(0, 0);
        lacesCanNot(x, 1);
        lacesAre(x, 0, 0);
        x.due(1, "year").sits(1, 1);
        lacesAre(x, 5, 5, 1, 1, 1, 1, 1);
        Nave down = Nave.by("p500 m10").sits(0, 0).due(1, "year");
        lacesAre(down, 3, 0, NONE, NONE, NONE);
        lacesAre(down, 5, 0, NONE, NONE, NONE, NONE, NONE);
    }

    @Says(promise = 30, sentence = FIRST_ROW)
    static void lacesByTheFirstRow() {
        lacesAre(Nave.by("p900p900p900p505 m35").sits(0, 3), 3, 2, NONE, 3, 3);
        lacesAre(Nave.by("p900p505p900p900 m35").sits(0, 1), 3, 2, NONE, 1, 1);
        lacesAre(Nave.by("p510p900p510 m35m35").sits(0, 0).sits(1, 2), 3, 2, NONE, 0, 2);
        lacesAre(Nave.by("p510p514 m35m35").sits(0, 0).sits(1, 1), 4, 2, NONE, NONE, 0, 1);
        lacesAre(Nave.by("p514p510 m35m35").sits(0, 0).sits(1, 1), 4, 2, NONE, NONE, 1, 0);
        lacesAre(Nave.by("p510 p505 p510 m35").sits(0, 1).years(1), 2, 2, 1, 1);
        lacesAre(Nave.by("l503 m10").sits(0, 0), 3, 1, NONE, NONE, 0);
    }

    @Says(promise = 30, sentence = FIRST_ROW)
    static void lacesToARowAnew() {
        for (int r = 0; r <= 5; r++) {
            Nave x = Nave.by("p505 m35").sits(0, 0).due(1, "laces", 2, r).rowIs(r, NONE, 0).due(1, "count", 8);
            x.due(40, "row", r, 40).due(1, "laces", 2, r).rowIs(r, NONE, 0).due(0, "row", r, 0).due(1, "laces", 2, r).rowIs(r, NONE, 0);
            x.fill(r, 7).due(2, "laces", 3, r).rowIs(r, NONE, 0, 0).due(0, "laces", 0, r).rowIs(r).due(1, "count", 8);
        }
    }

    @Says(promise = 30, sentence = "NONE: it can not be.")
    static void lacesThatCanNotBe() {
        Nave x = Nave.by("p504 p560 m35").sits(0, 0).fill(2, 8, 9).due(40, "row", 4, 40).tells(1, 9, "at", 2, 1);
        x.refuses(NONE, "laces", 1, 2).refuses(NONE, "laces", 2, 2).refuses(NONE, "laces", 5, 2).refuses(NONE, "laces", 5, 4);
        x.refuses(NONE, "laces", 5, 0).rowIsMissing(0).rowIs(2, 8, 9).due(0, "laces", 0, 2).rowIs(2);
        x.due(5, "down", 0).due(0, "laces", 5, 0).rowIs(0, NONE, NONE, NONE, NONE, NONE);
    }

    @Says(promise = 30, sentence = "BAD;")
    static void lacesForYearsThatThereAreNot() {
        Nave x = Nave.by("p510 m35").sits(0, 0).fill(1, 4);
        for (int n : outside(0, 5)) {
            x.refuses(BAD, "laces", n, 1).refuses(BAD, "laces", n, 0);
        }
        x.due(0, "laces", 0, 1).due(2, "laces", 5, 0);
        new Nave().refuses(BAD, "laces", -1, 0).refuses(BAD, "laces", 6, 0);
    }

    @Says(promise = 30, sentence = "BAD;")
    static void lacesToARowThatThereIsNot() {
        for (int n : new int[] {0, 5, 6}) {
            Nave x = Nave.by("p510 m35").sits(0, 0).fill(0, 4).fill(5, 6);
            for (int r : outside(0, 5)) {
                x.refuses(BAD, "laces", n, r);
            }
        }
        new Nave().refuses(BAD, "laces", 0, -1).refuses(BAD, "laces", 0, 6);
    }

    @Says(promise = 30, sentence = "STATE: no POLES.")
    static void lacesWithoutPoles() {
        Nave x = new Nave().fill(0, 4, 5).refuses(STATE, "laces", 0, 0).refuses(STATE, "laces", 5, 5).refuses(BAD, "laces", 6, 0);
        x.write(0, "p505m35").refuses(STATE, "laces", 1, 0).rowIs(0, 4, 5).rowIsMissing(5).due(1, "nave", 0);
        x.due(0, "laces", 1, 0).rowIs(0, NONE);
    }

    private LacingTests() {
    }
}
