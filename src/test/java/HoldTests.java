/** Promises 24 to 26: what holds, aside. */
final class HoldTests extends Tests {
    private static final String HOLDING = "POLES (bits) that are up and HOLD; by how much all others that are up are laden too much "
        + "together by asked().";
    private static final String GIVING = "In how many YEARS (1 .. 40), this one the first, a POLE GIVES, nobody going up, down, "
        + "nothing LACED.";
    private static final String LATER = "How HIGH all PEOPLE together are behind n (0 .. 40) YEARS so; POLES that are DOWN then (bits) "
        + "by asked().";

    @Says(promise = 24, sentence = HOLDING)
    static void holdsByOneMoreOrLess() {
        String[] naves = {"p504 m35", "p505 m35", "p506 m35", "p500 m35"};
        int[] want = {0, 1, 1, 0};
        int[] more = {1, 0, 0, 5};
        for (int j = 0; j < naves.length; j++) {
            Nave x = Nave.by(naves[j]).tells(1, 0, "holds").sits(0, 0).tells(want[j], more[j], "holds");
            long digest = x.call("digest");
            x.tells(want[j], more[j], "holds").due(digest, "digest").due(5, "down", 0).tells(1, 0, "holds");
        }
    }

    @Says(promise = 24, sentence = HOLDING)
    static void holdsOfEachSetOfFour() {
        for (int set = 0; set < 16; set++) {
            StringBuilder signs = new StringBuilder();
            int more = 0;
            for (int k = 0; k < 4; k++) {
                signs.append((set >> k & 1) == 1 ? "p503" : "p50" + (k % 3)).append("m30");
                more += (set >> k & 1) == 1 ? 0 : 3 - k % 3;
            }
            Nave x = Nave.by(signs.toString()).tells(15, 0, "holds");
            for (int k = 0; k < 4; k++) {
                x.sits(k, k);
            }
            x.tells(set, more, "holds").due(15 - set, "year").tells(0, 3 * Integer.bitCount(set), "holds");
            x.due(set, "year").tells(0, 0, "holds");
        }
    }

    @Says(promise = 24, sentence = HOLDING)
    static void holdsOfThoseThatAreUp() {
        Nave x = Nave.by("p510 d305 l400 p906 m35 m93 m11 m77").sits(0, 0).sits(2, 3).tells(15, 0, "holds");
        x.sits(1, 0).tells(14, 5, "holds").sits(3, 2).tells(10, 14, "holds").due(5, "year").tells(10, 0, "holds");
        Nave edge = Nave.by("p505 m35").sits(0, 0).tells(1, 0, "holds").years(1).tells(0, 4, "holds").years(1);
        edge.tells(0, 0, "holds").due(1, "count", 4);
    }

    @Says(promise = 24, sentence = "STATE: no POLES.")
    static void holdsWithoutPoles() {
        Nave x = new Nave().refuses(STATE, "holds").write(0, "m35").refuses(STATE, "nave", 0).refuses(STATE, "holds");
        x.write(0, "p510m35").refuses(STATE, "holds").due(1, "nave", 0).tells(1, 0, "holds");
    }

    @Says(promise = 25, sentence = GIVING)
    static void givesByOneMoreOrLess() {
        Nave.by("p504 m35").sits(0, 0).aside(1, "gives", 0).due(1, "year");
        Nave.by("p505 m35").sits(0, 0).aside(2, "gives", 0).due(0, "year").aside(1, "gives", 0).due(1, "year");
        Nave.by("p508 m35").sits(0, 0).aside(2, "gives", 0).due(0, "year").due(1, "year");
        Nave.by("p509 m35").sits(0, 0).aside(3, "gives", 0).years(2).due(1, "year");
        Nave.by("l506 m35").sits(0, 0).aside(2, "gives", 0);
        Nave.by("l507 m35").sits(0, 0).aside(3, "gives", 0);
        Nave.by("p503 m10").sits(0, 0).aside(2, "gives", 0).due(0, "year").due(1, "year");
    }

    @Says(promise = 25, sentence = GIVING)
    static void givesAtTheMostWear() {
        Nave.by("l123 m40").sits(0, 0).aside(11, "gives", 0).years(10).aside(1, "gives", 0).due(1, "year");
        Nave.by("l124 m40").sits(0, 0).aside(NONE, "gives", 0).years(30).aside(NONE, "gives", 0).tells(1, 20, "pole", 0, 3);
        Nave.by("l122 m40").sits(0, 0).aside(11, "gives", 0);
        Nave.by("l121 m40").sits(0, 0).aside(10, "gives", 0);
        Nave.by("l123 m40").years(1).sits(0, 0).aside(11, "gives", 0).due(1, "lace", 0).aside(11, "gives", 0);
        Nave.by("p143 m40").years(1).sits(0, 0).aside(11, "gives", 0);
        Nave.by("p144 m40").sits(0, 0).aside(NONE, "gives", 0);
        Nave.by("d101 m20").sits(0, 0).aside(NONE, "gives", 0);
        Nave.by("d101 m30").sits(0, 0).aside(2, "gives", 0);
    }

    @Says(promise = 25, sentence = GIVING)
    static void givesOfThatPoleAlone() {
        Nave x = Nave.by("p510 d905 l400 p460 m35 m30 m11 m90").sits(0, 0).sits(3, 2).sits(1, 3).sits(2, 1);
        x.aside(3, "gives", 0).aside(NONE, "gives", 1).aside(1, "gives", 2).aside(NONE, "gives", 3);
        x.due(4, "year").aside(2, "gives", 0).aside(NONE, "gives", 2);
        Nave empty = Nave.by("p500 l560 m35").aside(NONE, "gives", 0).sits(0, 0).aside(1, "gives", 0).due(5, "down", 0);
        empty.aside(NONE, "gives", 0).aside(NONE, "gives", 1);
        Nave two = Nave.by("p510 m35 m35").sits(0, 0).aside(3, "gives", 0).sits(1, 0).aside(2, "gives", 0);
        two.years(1).aside(1, "gives", 0).due(2, "lace", 0).aside(2, "gives", 0);
    }

    @Says(promise = 25, sentence = "NONE: not by then, or it is DOWN.")
    static void givesOfOneThatIsDown() {
        Nave x = Nave.by("p500 p560 m35 m19").sits(0, 0).aside(1, "gives", 0).due(1, "year").aside(NONE, "gives", 0);
        x.years(2).aside(NONE, "gives", 0).aside(NONE, "gives", 1).due(3, "undo", 1).aside(1, "gives", 0);
    }

    @Says(promise = 25, sentence = "BAD.")
    static void givesOfAPoleThatThereIsNot() {
        for (int many = 1; many <= 4; many++) {
            Nave x = Nave.by("p500".repeat(many) + "m35").sits(0, many - 1);
            for (int k : outside(0, many - 1)) {
                x.refuses(BAD, "gives", k);
            }
            x.aside(1, "gives", many - 1);
        }
        new Nave().refuses(BAD, "gives", 0).refuses(BAD, "gives", -1).refuses(BAD, "gives", 1);
    }

    @Says(promise = 26, sentence = LATER)
    static void laterFromNoneToForty() {
        Nave x = Nave.by("p510 d905 l400 l460 m35 m37 m11 m96").sits(0, 0).sits(3, 2).sits(1, 3).sits(2, 1);
        long digest = x.call("digest");
        x.tells(14, 0, "later", 0).tells(10, 4, "later", 1).tells(10, 4, "later", 2).tells(5, 5, "later", 3);
        x.tells(5, 5, "later", 39).tells(5, 5, "later", 40).due(digest, "digest");
        x.due(4, "year").tells(10, 4, "later", 0).tells(10, 4, "later", 1).tells(5, 5, "later", 2).tells(5, 5, "later", 40);
    }

    @Says(promise = 26, sentence = LATER)
    static void laterAtTheMostWear() {
        Nave x = Nave.by("l123 l124 m49 m49 m19").sits(0, 0).sits(1, 1).tells(2, 0, "later", 10).tells(1, 1, "later", 11);
        x.tells(1, 1, "later", 40).years(10).tells(2, 0, "later", 0).tells(1, 1, "later", 1).tells(1, 1, "later", 40);
    }

    @Says(promise = 26, sentence = LATER)
    static void laterByOneMoreOrLess() {
        Nave.by("p504 m35").sits(0, 0).tells(5, 0, "later", 0).tells(0, 1, "later", 1).tells(0, 1, "later", 2);
        Nave.by("p505 m35").sits(0, 0).tells(5, 0, "later", 1).tells(0, 1, "later", 2);
        Nave.by("p508 m35").sits(0, 0).tells(5, 0, "later", 1).tells(0, 1, "later", 2);
        Nave.by("p509 m35").sits(0, 0).tells(5, 0, "later", 2).tells(0, 1, "later", 3);
    }

    @Says(promise = 26, sentence = LATER)
    static void laterOfEachSetOfFour() {
        for (int set = 0; set < 16; set++) {
            Nave x = Nave.by("p500 p500 p500 p500 m11 m12 m14 m19");
            int high = 0;
            int[] highs = {1, 2, 4, 5};
            for (int k = 0; k < 4; k++) {
                if ((set >> k & 1) == 1) {
                    x.sits(k, k);
                    high += highs[k];
                }
            }
            x.tells(high, 0, "later", 0).tells(0, set, "later", 1).tells(0, set, "later", 40).due(0, "count", 4);
        }
    }

    @Says(promise = 26, sentence = "BAD;")
    static void laterThanForty() {
        Nave x = Nave.by("p510 m35").sits(0, 0).tells(5, 0, "later", 0);
        for (int n : outside(0, 40)) {
            x.refuses(BAD, "later", n);
        }
        x.tells(0, 1, "later", 40);
        new Nave().refuses(BAD, "later", -1).refuses(BAD, "later", 41);
    }

    @Says(promise = 26, sentence = "STATE: no POLES.")
    static void laterWithoutPoles() {
        Nave x = new Nave().refuses(STATE, "later", 0).refuses(STATE, "later", 40).write(0, "p510m35").refuses(STATE, "later", 1);
        x.due(1, "nave", 0).tells(0, 0, "later", 0).tells(0, 0, "later", 40);
    }

    private HoldTests() {
    }
}
