/** Promises 16 to 20: deeds. */
final class DeedTests extends Tests {

    @Says(promise = 16, sentence = "One goes up a POLE: the LOAD then.")
    static void sitTellsTheLoad() {
        Nave x = Nave.by("p510 d305 l400 k960 m35 m93 m11 m77 m99");
        x.due(5, "sit", 0, 0).due(15, "sit", 1, 0).due(1, "sit", 2, 1).due(9, "sit", 3, 2).due(13, "sit", 4, 3);
        x.due(5, "count", 2).due(31, "count", 5).due(22, "count", 6);
        x.tells(1, 15, "pole", 0, 5).tells(1, 3, "pole", 0, 6).tells(1, 3, "one", 4, 2).tells(1, 0, "one", 1, 2);
    }

    @Says(promise = 16, sentence = "One goes up a POLE: the LOAD then.")
    static void sitOfEachOneOnEachPole() {
        for (int i = 0; i < 5; i++) {
            for (int k = 0; k < 4; k++) {
                Nave x = Nave.by("p110 p210 p310 p410 m19 m29 m39 m49 m59").due(i + 1 + (k + 1) / 2, "sit", i, k);
                x.due(1 << i, "count", 5).tells(1, 1 << i, "pole", k, 6).tells(1, k, "one", i, 2).tells(1, k + 1, "one", i, 3);
            }
        }
    }

    @Says(promise = 16, sentence = "BAD")
    static void sitOfOneWhoThereIsNot() {
        for (int k : new int[] {0, 1, 2}) {
            Nave x = Nave.by("p510 d305 m35 m93 m11");
            for (int i : outside(0, 2)) {
                x.refuses(BAD, "sit", i, k);
            }
        }
        new Nave().refuses(BAD, "sit", 0, 0).refuses(BAD, "sit", -1, 0);
        Nave.by("p510 m35").refuses(BAD, "sit", 1, 0).due(5, "sit", 0, 0);
        Nave.by("p510 m11 m11 m11 m11 m35").refuses(BAD, "sit", 5, 0).due(5, "sit", 4, 0);
    }

    @Says(promise = 16, sentence = "BAD")
    static void sitOnAPoleThatThereIsNot() {
        for (int i : new int[] {0, 2, 3}) {
            Nave x = Nave.by("p510 d305 m35 m93 m11");
            for (int k : outside(0, 1)) {
                x.refuses(BAD, "sit", i, k);
            }
        }
        Nave.by("p510 m35").refuses(BAD, "sit", 0, 1).due(5, "sit", 0, 0);
        Nave.by("p510 p510 p510 p510 m35").refuses(BAD, "sit", 0, 4).due(5, "sit", 0, 3);
    }

    @Says(promise = 16, sentence = "STATE: one is up, or the POLE is DOWN;")
    static void sitOfOneWhoIsUp() {
        Nave x = Nave.by("p510 d305 m35 m93").sits(0, 0);
        x.refuses(STATE, "sit", 0, 0).refuses(STATE, "sit", 0, 1).refuses(BAD, "sit", 0, 2).due(9 + 1, "sit", 1, 1);
        x.refuses(STATE, "sit", 1, 0).refuses(STATE, "sit", 1, 1).due(5, "down", 0).due(3 + 1 + 10, "sit", 0, 1);
    }

    @Says(promise = 16, sentence = "STATE: one is up, or the POLE is DOWN;")
    static void sitOnAPoleThatIsDown() {
        Nave x = Nave.by("p500 p560 p500 m10 m35 m20").sits(0, 2).sits(1, 1).due(4, "year");
        x.refuses(STATE, "sit", 0, 2).refuses(STATE, "sit", 2, 2).refuses(STATE, "sit", 1, 2).refuses(STATE, "sit", 1, 1);
        x.due(1, "sit", 0, 0).due(1, "year").refuses(STATE, "sit", 0, 0).due(6, "sit", 0, 1);
        x.due(1, "undo", 5).due(1, "undo", 4).due(0, "down", 0).due(1, "sit", 0, 0);
    }

    @Says(promise = 16, sentence = "FULL: 40 DEEDS.")
    static void sitBehindFortyDeeds() {
        Nave x = Nave.by("p510 d305 m35 m93").deeds(38).due(5, "sit", 0, 0).due(10, "sit", 1, 1).due(40, "count", 2);
        Nave y = Nave.by("p510 d305 m35 m93").deeds(39).due(5, "sit", 0, 0).refuses(FULL, "sit", 1, 1);
        y.due(1, "undo", 39).due(10, "sit", 1, 1);
        Nave z = Nave.by("p510 d305 m35 m93").deeds(40).refuses(FULL, "sit", 0, 0).refuses(FULL, "sit", 1, 1);
        z.due(0, "count", 5).due(0, "undo", 40).refuses(FULL, "sit", 0, 0).due(1, "undo", 39).due(5, "sit", 0, 0);
    }

    @Says(promise = 16, sentence = "(FULL last.)")
    static void sitRefusedByTheFirst() {
        Nave x = Nave.by("p500 d905 m35 m93 m22").sits(1, 1).sits(0, 0).due(1, "year").deeds(40);
        x.refuses(BAD, "sit", 3, 1).refuses(BAD, "sit", 2, 2).refuses(BAD, "sit", 1, 2).refuses(BAD, "sit", -1, 0);
        x.refuses(STATE, "sit", 1, 1).refuses(STATE, "sit", 1, 0).refuses(STATE, "sit", 2, 0).refuses(FULL, "sit", 2, 1);
        x.refuses(FULL, "sit", 0, 1);
        Nave y = Nave.by("p500 d905 m35 m93 m22").sits(1, 1).refuses(BAD, "sit", 1, 2).refuses(BAD, "sit", 3, 1);
        y.sits(0, 0).due(1, "year").refuses(BAD, "sit", 3, 0);
    }

    @Says(promise = 17, sentence = "One comes down: how HIGH one was.")
    static void downTellsHowHigh() {
        Nave x = Nave.by("p560 d360 m38 m92 m15 m10 m13").sits(0, 0).sits(1, 1).sits(2, 0).sits(3, 1).sits(4, 1);
        x.due(5, "down", 0).tells(1, 4, "pole", 0, 6).due(2, "down", 1).due(5, "down", 2).due(0, "down", 3).due(3, "down", 4);
        x.due(10, "count", 2).due(0, "count", 5).due(0, "count", 6).tells(1, NONE, "one", 0, 2).tells(1, 0, "pole", 1, 5);
        x.due(4, "sit", 0, 1).due(3, "down", 0);
    }

    @Says(promise = 17, sentence = "BAD")
    static void downOfOneWhoThereIsNot() {
        for (int many = 1; many <= 5; many++) {
            Nave x = Nave.by("p560" + "m38".repeat(many)).sits(0, 0).sits(many - 1, 0);
            for (int i : outside(0, many - 1)) {
                x.refuses(BAD, "down", i);
            }
            x.due(5, "down", many - 1);
        }
        new Nave().refuses(BAD, "down", 0).refuses(BAD, "down", -1);
    }

    @Says(promise = 17, sentence = "STATE: one is on the ground;")
    static void downOfOneOnTheGround() {
        Nave x = Nave.by("p560 p500 m38 m92").refuses(STATE, "down", 0).refuses(STATE, "down", 1).sits(0, 0);
        x.refuses(STATE, "down", 1).due(5, "down", 0).refuses(STATE, "down", 0).sits(1, 1).due(2, "year");
        x.refuses(STATE, "down", 1).due(1, "undo", 3).due(2, "down", 1).refuses(STATE, "down", 1);
    }

    @Says(promise = 17, sentence = "FULL.")
    static void downBehindFortyDeeds() {
        Nave.by("p560 m38").sits(0, 0).deeds(38).due(5, "down", 0).due(5, "sit", 0, 0).refuses(FULL, "down", 0);
        Nave.by("p560 m38").sits(0, 0).deeds(39).due(5, "down", 0).due(40, "count", 2);
        Nave x = Nave.by("p560 m38").sits(0, 0).deeds(40).refuses(FULL, "down", 0).due(1, "count", 5);
        x.due(1, "undo", 39).due(5, "down", 0);
    }

    @Says(promise = 17, sentence = "(FULL last.)")
    static void downRefusedByTheFirst() {
        Nave x = Nave.by("p560 m38 m27").sits(0, 0).deeds(40);
        x.refuses(BAD, "down", 2).refuses(BAD, "down", -1).refuses(STATE, "down", 1).refuses(FULL, "down", 0);
    }

    @Says(promise = 18, sentence = "A POLE is LACED: the WEAR that it had.")
    static void laceTellsTheWear() {
        Nave x = Nave.by("d960 p900 p960 p960 m10").due(0, "lace", 0).sits(0, 0).years(1).due(2, "lace", 0);
        x.tells(1, 0, "pole", 0, 3).tells(1, 1, "pole", 2, 3).years(9).due(18, "lace", 0).years(10);
        x.due(20, "lace", 0).due(0, "lace", 0).due(20, "lace", 2).due(20, "lace", 3).due(20, "lace", 1);
        x.tells(1, 0, "pole", 0, 3).tells(1, 0, "pole", 2, 3).due(20, "count", 3).years(1);
        x.tells(1, 2, "pole", 0, 3).tells(1, 1, "pole", 2, 3).tells(1, 1, "pole", 0, 6);
    }

    @Says(promise = 18, sentence = "A POLE is LACED: the WEAR that it had.")
    static void laceIsOfThatPoleAlone() {
        for (int k = 0; k < 4; k++) {
            Nave x = Nave.by("p160 r260 k360 d460 m10").years(3).due(3, "lace", k);
            for (int other = 0; other < 4; other++) {
                x.tells(1, other == k ? 0 : 3, "pole", other, 3).tells(1, other + 1, "pole", other, 1);
            }
            x.due(1, "count", 11).due(4, "count", 2).due(3, "count", 3);
        }
    }

    @Says(promise = 18, sentence = "BAD")
    static void laceOfAPoleThatThereIsNot() {
        for (int many = 1; many <= 4; many++) {
            Nave x = Nave.by("p560".repeat(many) + "m38").years(2);
            for (int k : outside(0, many - 1)) {
                x.refuses(BAD, "lace", k);
            }
            x.due(2, "lace", many - 1);
        }
        new Nave().refuses(BAD, "lace", 0).refuses(BAD, "lace", -1);
    }

    @Says(promise = 18, sentence = "STATE: it is DOWN;")
    static void laceOfAPoleThatIsDown() {
        Nave x = Nave.by("p560 p500 m38 m92").due(0, "lace", 1).sits(0, 0).sits(1, 1).due(2, "year").refuses(STATE, "lace", 1);
        x.due(2, "lace", 0).years(1).refuses(STATE, "lace", 1).due(2, "undo", 4).due(1, "undo", 3).due(0, "lace", 1);
    }

    @Says(promise = 18, sentence = "FULL.")
    static void laceBehindFortyDeeds() {
        Nave.by("p560 m38").years(1).deeds(38).due(1, "lace", 0).due(0, "lace", 0).refuses(FULL, "lace", 0);
        Nave.by("p560 m38").years(1).deeds(39).due(1, "lace", 0).due(40, "count", 2);
        Nave x = Nave.by("p560 m38").years(1).deeds(40).refuses(FULL, "lace", 0).tells(1, 1, "pole", 0, 3);
        x.due(1, "undo", 39).due(1, "lace", 0);
    }

    @Says(promise = 18, sentence = "(FULL last.)")
    static void laceRefusedByTheFirst() {
        Nave x = Nave.by("p560 p500 m38").sits(0, 1).due(2, "year").deeds(40);
        x.refuses(BAD, "lace", 2).refuses(BAD, "lace", -1).refuses(STATE, "lace", 1).refuses(FULL, "lace", 0);
    }

    @Says(promise = 19, sentence = "A STONE is brought: how many lie there.")
    static void stonesLieThere() {
        Nave x = Nave.by("p560 m38").sits(0, 0);
        for (int many = 1; many <= 39; many++) {
            x.due(many, "stone").due(many, "count", 7);
        }
        x.due(40, "count", 2).due(0, "count", 3).tells(1, 5, "pole", 0, 5).tells(1, 0, "pole", 0, 3).due(3, "undo", 37);
        x.due(36, "count", 7).due(37, "stone").due(0, "year").due(38, "stone");
    }

    @Says(promise = 19, sentence = "STATE: no POLES;")
    static void stoneWithoutPoles() {
        Nave x = new Nave().refuses(STATE, "stone").write(0, "p560").refuses(STATE, "nave", 0).refuses(STATE, "stone");
        x.write(0, "p560m38").refuses(STATE, "stone").due(1, "nave", 0).due(1, "stone");
        Nave.by("p500 m10").sits(0, 0).due(1, "year").due(1, "stone");
    }

    @Says(promise = 19, sentence = "FULL.")
    static void stoneBehindFortyDeeds() {
        Nave x = Nave.by("p560 m38").sits(0, 0).years(37).due(1, "stone").due(2, "stone").refuses(FULL, "stone");
        x.refuses(FULL, "stone").due(1, "undo", 39).due(2, "stone").refuses(FULL, "stone").due(2, "count", 7);
    }

    @Says(promise = 19, sentence = "(FULL last.)")
    static void stoneRefusedByTheFirst() {
        Nave.by("p560 m38").deeds(40).refuses(FULL, "stone");
        new Nave().refuses(STATE, "stone");
    }

    @Says(promise = 20, sentence = "A YEAR passes: POLES (bits) that GAVE.")
    static void yearTellsWhatGave() {
        for (int set = 0; set < 16; set++) {
            StringBuilder signs = new StringBuilder();
            for (int k = 0; k < 4; k++) {
                signs.append((set >> k & 1) == 1 ? "p502" : "p503").append("m30");
            }
            Nave x = Nave.by(signs.toString());
            for (int k = 0; k < 4; k++) {
                x.sits(k, k);
            }
            x.due(set, "year").due(set, "count", 4).due(15 - set, "count", 5).due(1, "count", 3);
            x.due(15 - set, "year").due(15, "count", 4).due(0, "count", 5).due(0, "year").due(3, "count", 3).due(7, "count", 2);
        }
    }

    @Says(promise = 20, sentence = "STATE: no POLES;")
    static void yearWithoutPoles() {
        Nave x = new Nave().refuses(STATE, "year").write(0, "m38").refuses(STATE, "nave", 0).refuses(STATE, "year");
        x.write(0, "p560m38").refuses(STATE, "year").due(1, "nave", 0).due(0, "year");
        Nave.by("p500 m10").sits(0, 0).due(1, "year").due(0, "year");
    }

    @Says(promise = 20, sentence = "FULL.")
    static void yearBehindFortyDeeds() {
        Nave x = Nave.by("p504 m38").sits(0, 0).deeds(38).due(1, "year").due(0, "year").refuses(FULL, "year");
        x.due(2, "count", 3).due(1, "undo", 39).due(0, "year").refuses(FULL, "year");
        Nave y = Nave.by("p504 m38").sits(0, 0).deeds(39).due(1, "year").refuses(FULL, "year");
        Nave z = Nave.by("p504 m38").sits(0, 0).deeds(40).refuses(FULL, "year").due(0, "count", 4).due(1, "count", 5);
        z.due(1, "undo", 39).due(1, "year");
        y.due(1, "count", 4);
    }

    @Says(promise = 20, sentence = "(FULL last.)")
    static void yearRefusedByTheFirst() {
        Nave.by("p560 m38").deeds(40).refuses(FULL, "year");
        new Nave().refuses(STATE, "year");
    }

    private DeedTests() {
    }
}
