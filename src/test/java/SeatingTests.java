/** Promises 27 to 29: seatings, aside. */
final class SeatingTests extends Tests {
    private static final String HIGHEST_OF_ALL = "How HIGH all are together at most, if all POLES HOLD;";
    private static final String FIRST_ROW = "on which POLE each one SITS comes to a ROW (anew; NONE: on the ground) by the first such "
        + "seating (rising; NONE least).";
    private static final String FEWEST = "The fewest POLES on which all PEOPLE can SIT, so that all HOLD;";
    private static final String SEATED = "The seating told by a ROW (as many places as PEOPLE: POLES, NONE): how many POLES do not HOLD; "
        + "how HIGH all are together by asked().";

    private static Nave bestIs(Nave x, int want, int... seats) {
        int asked = (int) x.call("asked");
        return x.due(want, "best", 3).due(asked, "asked").rowIs(3, seats);
    }

    @Says(promise = 27, sentence = HIGHEST_OF_ALL)
    static void bestByOneMoreOrLess() {
        bestIs(Nave.by("p504 m35"), 0, NONE);
        bestIs(Nave.by("p505 m35"), 5, 0);
        bestIs(Nave.by("p506 m35"), 5, 0);
        bestIs(Nave.by("p509 m35 m35"), 5, NONE, 0);
        bestIs(Nave.by("p510 m35 m35"), 10, 0, 0);
        bestIs(Nave.by("p101 p101 m11 m11"), 2, 0, 1);
        bestIs(Nave.by("p102 p101 m11 m11 m11 m11"), 3, NONE, 0, 0, 1);
        bestIs(Nave.by("d303 m76 m11"), 4, 0, 0);
        bestIs(Nave.by("d302 m76 m11"), 3, 0, NONE);
        bestIs(Nave.by("d301 m76 m11"), 1, NONE, 0);
    }

    @Says(promise = 27, sentence = HIGHEST_OF_ALL)
    static void bestOfNoneAndAll() {
        bestIs(Nave.by("p300 m19 m29"), 0, NONE, NONE);
        bestIs(Nave.by("p960 m99m99m99m99m99"), 36, NONE, 0, 0, 0, 0);
        bestIs(Nave.by("d960 m99m99m99m99m99"), 45, 0, 0, 0, 0, 0);
        bestIs(Nave.by("p505p505p505p505 m35m35m35m35m35"), 20, NONE, 0, 1, 2, 3);
        bestIs(Nave.by("p960 m10m10m10m10m10"), 0, NONE, NONE, NONE, NONE, NONE);
    }

    @Says(promise = 27, sentence = HIGHEST_OF_ALL)
    static void bestIsWhoIsHigher() {
        bestIs(Nave.by("p909 m91 m59"), 9, NONE, 0);
        bestIs(Nave.by("p909 m59 m91"), 9, 0, NONE);
        bestIs(Nave.by("p110 p911 p110 m19 m28"), 17, 1, 1);
        bestIs(Nave.by("p110 p930 p110 m19 m19 m19"), 27, 1, 1, 1);
        bestIs(Nave.by("p512 p310 m35 m46 m28"), 13, 0, 0, 1);
        bestIs(Nave.by("p906 p304 m28 m37"), 11, 0, 1);
    }

    @Says(promise = 27, sentence = FIRST_ROW)
    static void bestByTheFirstRow() {
        bestIs(Nave.by("p510 p510 m35"), 5, 0);
        bestIs(Nave.by("p505 p505 m35 m35"), 10, 0, 1);
        bestIs(Nave.by("p505 m35 m35"), 5, NONE, 0);
        bestIs(Nave.by("p505 p505 m35 m35 m35"), 10, NONE, 0, 1);
        bestIs(Nave.by("p505 p510 m35 m35"), 10, 0, 1);
        bestIs(Nave.by("p504 p510 p510 m35 m35"), 10, 1, 1);
        bestIs(Nave.by("p100 d160 m30 m31"), 1, NONE, 1);
        bestIs(Nave.by("p560 m10 m11 m10"), 1, NONE, 0, NONE);
        bestIs(Nave.by("p305 p505 p305 m33 m33 m33"), 9, 0, 1, 2);
        bestIs(Nave.by("p503 p505 m35 m15"), 10, 1, 0);
    }

    @Says(promise = 27, sentence = FIRST_ROW)
    static void bestToARowAnew() {
        for (int r = 0; r <= 5; r++) {
            Nave x = Nave.by("p505 m35 m35").due(5, "best", r).rowIs(r, NONE, 0).due(1, "count", 8);
            x.due(40, "row", r, 40).due(5, "best", r).rowIs(r, NONE, 0).due(0, "row", r, 0).due(5, "best", r).rowIs(r, NONE, 0);
            x.fill(r, 7, 8, 9).due(5, "best", r).rowIs(r, NONE, 0).fill(r, 7).due(5, "best", r).rowIs(r, NONE, 0);
            x.due(1, "count", 8).due(1, "tear", r).due(5, "best", r).rowIs(r, NONE, 0).due(0, "count", 2);
        }
    }

    @Says(promise = 27, sentence = FIRST_ROW)
    static void bestOfOneToFivePeople() {
        Nave x = Nave.by("p560 m35").due(5, "best", 1).rowIs(1, 0);
        x.write(1, "p560 m35m35m35m35m35").due(1, "nave", 1).due(25, "best", 1).rowIs(1, 0, 0, 0, 0, 0);
        x.write(1, "p560 p560 m35m35").due(2, "nave", 1).due(10, "best", 1).rowIs(1, 0, 0);
    }

    @Says(promise = 27, sentence = "BAD;")
    static void bestToARowThatThereIsNot() {
        Nave x = Nave.by("p505 m35 m35").fill(0, 1).fill(5, 2);
        for (int r : outside(0, 5)) {
            x.refuses(BAD, "best", r);
        }
        new Nave().refuses(BAD, "best", -1).refuses(BAD, "best", 6);
    }

    @Says(promise = 27, sentence = "STATE: no POLES.")
    static void bestWithoutPoles() {
        Nave x = new Nave().fill(0, 4, 5).refuses(STATE, "best", 0).refuses(STATE, "best", 5).refuses(BAD, "best", 6);
        x.write(0, "p505m35").refuses(STATE, "best", 0).rowIs(0, 4, 5).rowIsMissing(5).due(1, "nave", 0).due(5, "best", 0).rowIs(0, 0);
    }

    @Says(promise = 28, sentence = FEWEST)
    static void fewestByOneMoreOrLess() {
        Nave.by("p505 m35").tells(1, 1, "fewest");
        Nave.by("p510 m35 m35").tells(1, 1, "fewest");
        Nave.by("p509 p505 m35 m35").tells(2, 3, "fewest");
        Nave.by("p509 p509 m35 m35").tells(2, 3, "fewest");
        Nave.by("p510 p505 m35 m35").tells(1, 1, "fewest");
        Nave.by("p914 p905 p909 m50m90").tells(1, 1, "fewest");
        Nave.by("p913 p905 p909 m50m90").tells(2, 3, "fewest");
    }

    @Says(promise = 28, sentence = FEWEST)
    static void fewestOfOneToFour() {
        Nave.by("p960p960p960p960 m10").tells(1, 1, "fewest");
        Nave.by("p903p903p903p903 m30m30m30m30").tells(4, 15, "fewest");
        Nave.by("p903p903p903p906 m30m30m30m30").tells(3, 11, "fewest");
        Nave.by("p903p903p906p906 m30m30m30m30").tells(2, 12, "fewest");
        Nave.by("p903p903p906p906 m30m30m30m30m30").tells(3, 13, "fewest");
        Nave.by("p903p903p906p915 m30m30m30m30m30").tells(1, 8, "fewest");
        Nave.by("p900p900p900p905 m10m10m10m10m10").tells(1, 8, "fewest");
    }

    @Says(promise = 28, sentence = "which (bits; of like few the least number) by asked().")
    static void fewestByTheLeastNumber() {
        Nave.by("p310p310p310 m10").tells(1, 1, "fewest");
        Nave.by("p905p904p904p908 m40m80").tells(2, 9, "fewest");
        Nave.by("p902p920 m10m20m30").tells(1, 2, "fewest");
        Nave.by("p903p905p904p906 m30m40m20").tells(2, 6, "fewest");
        Nave.by("p901p903p903p903 m30m30").tells(2, 6, "fewest");
        Nave.by("p903p901p903p903 m30m30").tells(2, 5, "fewest");
        Nave.by("p903p903p901p903 m30m30").tells(2, 3, "fewest");
        Nave.by("p903p901p901p906 m30m30").tells(1, 8, "fewest");
        Nave.by("p900p903p903p900 m30m30").tells(2, 6, "fewest");
        Nave.by("p903p900p900p903 m30m30").tells(2, 9, "fewest");
    }

    @Says(promise = 28, sentence = "NONE: they can not.")
    static void fewestWhenTheyCanNot() {
        Nave.by("p504 m35").tells(1, 5, "pole", 0, 1).refuses(NONE, "fewest").due(5, "asked");
        Nave.by("p503 p503 m30 m40").refuses(NONE, "fewest");
        Nave.by("p503 p504 m30 m40").tells(2, 3, "fewest");
        Nave.by("p903p903p903p903 m30m30m30m30m30").refuses(NONE, "fewest");
        Nave.by("p903p903p903p906 m30m30m30m30m30").tells(4, 15, "fewest");
        Nave.by("p500 m10").refuses(NONE, "fewest").sits(0, 0).due(1, "year").refuses(NONE, "fewest");
        Nave.by("p505 m35").tells(1, 1, "fewest").years(1).refuses(NONE, "fewest").due(1, "lace", 0).tells(1, 1, "fewest");
    }

    @Says(promise = 28, sentence = "STATE: no POLES.")
    static void fewestWithoutPoles() {
        Nave x = new Nave().refuses(STATE, "fewest").write(0, "p505m35").refuses(STATE, "fewest").due(1, "nave", 0);
        x.tells(1, 1, "fewest");
    }

    @Says(promise = 29, sentence = SEATED)
    static void seatedByOneMoreOrLess() {
        Nave.by("p504 m35").fill(0, 0).tells(1, 5, "seated", 0);
        Nave.by("p505 m35").fill(0, 0).tells(0, 5, "seated", 0);
        Nave.by("p506 m35").fill(0, 0).tells(0, 5, "seated", 0);
        Nave.by("p500 m35").fill(0, NONE).tells(0, 0, "seated", 0);
        Nave.by("p509 m35 m35").fill(0, 0, 0).tells(1, 10, "seated", 0).fill(0, 0, NONE).tells(0, 5, "seated", 0);
    }

    @Says(promise = 29, sentence = SEATED)
    static void seatedOnEachSetOfFour() {
        for (int set = 0; set < 16; set++) {
            StringBuilder signs = new StringBuilder();
            for (int k = 0; k < 4; k++) {
                signs.append((set >> k & 1) == 1 ? "p503" : "p502").append("m3").append(k < 2 ? k : 0);
            }
            Nave x = Nave.by(signs.toString()).fill(2, 0, 1, 2, 3);
            long digest = x.call("digest");
            x.tells(4 - Integer.bitCount(set), 1, "seated", 2).due(digest, "digest");
            x.fill(2, 3, 2, 1, 0).tells(4 - Integer.bitCount(set), 1, "seated", 2);
            x.fill(2, NONE, NONE, NONE, 3).tells(1 - (set >> 3), 0, "seated", 2);
        }
    }

    @Says(promise = 29, sentence = SEATED)
    static void seatedOfOneToFivePeople() {
        Nave x = Nave.by("p320 m35").fill(0, 0).tells(0, 3, "seated", 0).fill(0, NONE).tells(0, 0, "seated", 0);
        x.write(1, "p320 k820 m35m35m35m35m35").due(2, "nave", 1).fill(0, 0, 0, 0, 0, 0).tells(0, 15, "seated", 0);
        x.fill(0, 1, 1, 1, 1, 1).tells(1, 25, "seated", 0).fill(0, 0, 1, 1, 1, NONE).tells(0, 18, "seated", 0);
        x.fill(5, NONE, NONE, NONE, NONE, NONE).tells(0, 0, "seated", 5);
    }

    @Says(promise = 29, sentence = "BAD;")
    static void seatedByARowThatThereIsNot() {
        Nave x = Nave.by("p505 m35").fill(0, 0).fill(5, 0).tells(0, 5, "seated", 5);
        for (int r : outside(0, 5)) {
            x.refuses(BAD, "seated", r);
        }
        new Nave().refuses(BAD, "seated", -1).refuses(BAD, "seated", 6);
    }

    @Says(promise = 29, sentence = "STATE: no POLES;")
    static void seatedWithoutPoles() {
        Nave x = new Nave().fill(0, 0).due(0, "row", 1, 0).refuses(STATE, "seated", 0).refuses(STATE, "seated", 1);
        x.refuses(STATE, "seated", 2).write(0, "p505m35").refuses(STATE, "seated", 0).due(1, "nave", 0).tells(0, 5, "seated", 0);
    }

    @Says(promise = 29, sentence = "NOTHING;")
    static void seatedByARowThatIsMissing() {
        Nave x = Nave.by("p505 m35").finds(NOTHING, "seated", 0).finds(NOTHING, "seated", 5).fill(0, 0).tells(0, 5, "seated", 0);
        x.due(1, "tear", 0).finds(NOTHING, "seated", 0).due(0, "row", 0, 0).finds(SIZE, "seated", 0);
    }

    @Says(promise = 29, sentence = "SIZE: not as many;")
    static void seatedByMoreOrFewer() {
        for (int people = 1; people <= 5; people++) {
            Nave x = Nave.by("p560" + "m30".repeat(people));
            for (int n : new int[] {0, people - 1, people + 1, people + 2, 40}) {
                x.due(n, "row", 1, n).finds(SIZE, "seated", 1);
            }
            x.due(people, "row", 1, people).tells(0, 0, "seated", 1);
        }
    }

    @Says(promise = 29, sentence = "UNLIKE: no POLE, one that is DOWN.")
    static void seatedOnNoPole() {
        for (int many = 1; many <= 4; many++) {
            Nave x = Nave.by("p560".repeat(many) + "m35 m35 m35");
            for (int k : new int[] {-1, many, -8, -10, 256, LOWEST, HIGHEST}) {
                x.fill(0, k, 0, 0).finds(UNLIKE, "seated", 0).fill(0, 0, NONE, k).finds(UNLIKE, "seated", 0);
            }
            x.fill(0, 0, many - 1, NONE).tells(0, 10, "seated", 0);
        }
    }

    @Says(promise = 29, sentence = "UNLIKE: no POLE, one that is DOWN.")
    static void seatedOnOneThatIsDown() {
        Nave x = Nave.by("p560 p500 p560 m35 m35").fill(0, 1, NONE).tells(1, 5, "seated", 0).sits(1, 1).due(2, "year");
        x.finds(UNLIKE, "seated", 0).fill(0, 0, 1).finds(UNLIKE, "seated", 0).fill(0, 1, 1).finds(UNLIKE, "seated", 0);
        x.fill(0, 0, 2).tells(0, 10, "seated", 0).due(1, "undo", 1).fill(0, 0, 1).tells(1, 10, "seated", 0);
    }

    @Says(promise = 29, sentence = "(In this order.)")
    static void seatedRefusedByTheFirst() {
        new Nave().refuses(BAD, "seated", 6).refuses(STATE, "seated", 0).fill(0, 9, 9).refuses(STATE, "seated", 0);
        Nave x = Nave.by("p500 p560 m35").sits(0, 0).due(1, "year").refuses(BAD, "seated", -1).finds(NOTHING, "seated", 0);
        x.fill(0, 9, 9).finds(SIZE, "seated", 0).fill(0, 0, 0).finds(SIZE, "seated", 0).fill(0, 9).finds(UNLIKE, "seated", 0);
        x.fill(0, 0).finds(UNLIKE, "seated", 0).fill(0, 1).tells(0, 5, "seated", 0);
    }

    private SeatingTests() {
    }
}
