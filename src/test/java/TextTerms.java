/** Terms: rows and texts by number, what a NAVE is as a TEXT, where its FAULT is, the KINDS and their letters. */
final class TextTerms extends Tests {
    private static final String ROWS = "ROWS 0 .. 5 are rows of 0 to 40 ints, TEXTS 0 .. 3 rows of 0 to 60 bytes, or missing (at first).";
    private static final String BLANKS = "A NAVE (without POLES at first) is a TEXT: blanks (32) ahead, between, behind as many as wanted, "
        + "none within items.";
    private static final String POLES = "Items in any order: POLES (1 to 4; 0, 1, .. as they come): a letter, how TALL (1 .. 9), how STRONG "
        + "(two figures 00 .. 60);";
    private static final String PEOPLE = "PEOPLE (1 to 5; 0, 1, .. as they come): m (109), a WEIGHT (1 .. 9), how DEVOUT (0 .. 9), one "
        + "figure each.";
    private static final String NONE_SUCH = "A FAULT is the first place at which it can't go on so (a letter, a figure that is none such, a "
        + "fifth POLE, a sixth one of PEOPLE: its place;";
    private static final String TOO_STRONG = "two figures that tell more than 60: the place of the first of both;";
    private static final String TOO_EARLY = "the TEXT's size, if its end comes too early,";
    private static final String LACKING = "or there is no POLE, or there are no PEOPLE, or there are blanks alone).";
    private static final String KINDS = "KINDS of POLES and letters: 0 POLE (p, 112), 1 ROTTEN (r, 114; a POLE), 2 LACED (l, 108; a POLE), "
        + "3 SPLICED (s, 115; a LACED one), 4 RIDGE (d, 100; a LACED one), 5 OAK (k, 107; a ROTTEN one).";

    // ---- rows and texts by number

    private static int rowCall(Nave x, int which, int r) {
        String[] calls = {"row", "lay", "at", "copy", "copy", "mean", "best", "seated", "laces", "strengths", "kinds", "test", "tear"};
        int[][] numbers = {{r, 3}, {r, 0, 0}, {r, 0}, {r, 0, 2, 0, 1}, {2, 0, r, 0, 1}, {r}, {r}, {r}, {1, r}, {0, r}, {0, r}, {0, r}, {r}};
        return (int) x.call(calls[which], numbers[which]);
    }

    /** In each ROW stands a triple that is a seating of three, too. */
    @Says(promise = TERMS, sentence = ROWS)
    static void rowsOfEachCall() {
        for (int which = 0; which < 13; which++) {
            Nave x = Nave.by("p560 p560 m35 m20 m10");
            for (int r = 0; r <= 5; r++) {
                x.fill(r, 0, 0, 1);
            }
            for (int r = 0; r <= 5; r++) {
                Check.due("row call " + which + " of " + r + " is refused", rowCall(x.fill(r, 0, 0, 1), which, r) < 0 ? 1 : 0, 0);
            }
            long digest = x.call("digest");
            for (int r : outside(0, 5)) {
                Check.due("row call " + which + " of " + r, rowCall(x, which, r), BAD);
            }
            x.due(digest, "digest").due(0, "finding");
        }
    }

    @Says(promise = TERMS, sentence = ROWS)
    static void textsOfEachCall() {
        String[] calls = {"text", "put", "fault", "nave"};
        for (int which = 0; which < 4; which++) {
            Nave x = new Nave();
            for (int t = 0; t <= 3; t++) {
                x.write(t, "p160m19");
            }
            for (int t = 0; t <= 3; t++) {
                int[][] numbers = {{t, 7}, {t, 0, 112}, {t}, {t}};
                int[] want = {7, 1112, NONE, 1};
                x.due(want[which], calls[which], numbers[which]);
            }
            for (int t : outside(0, 3)) {
                int[][] numbers = {{t, 7}, {t, 0, 112}, {t}, {t}};
                x.refuses(BAD, calls[which], numbers[which]);
            }
        }
    }

    @Says(promise = TERMS, sentence = ROWS)
    static void rowsOfNoneToFortyInts() {
        Nave x = new Nave();
        for (int r = 0; r <= 5; r++) {
            x.finds(NOTHING, "at", r, 0).due(40, "row", r, 40).refuses(BAD, "row", r, 41).tells(1, 0, "lay", r, 39, HIGHEST);
            x.finds(BEYOND, "lay", r, 40, 1).tells(1, HIGHEST, "at", r, 39).due(0, "row", r, 0).finds(BEYOND, "at", r, 0);
        }
        x.due(6, "count", 8);
    }

    @Says(promise = TERMS, sentence = ROWS)
    static void textsOfNoneToSixtyBytes() {
        Nave x = new Nave();
        for (int t = 0; t <= 3; t++) {
            x.finds(NOTHING, "fault", t).due(60, "text", t, 60).refuses(BAD, "text", t, 61).due(1032, "put", t, 59, 127);
            x.finds(BEYOND, "put", t, 60, 1).due(1127, "put", t, 59, 128).due(872, "put", t, 59, 0).due(0, "text", t, 0);
            x.finds(BEYOND, "put", t, 0, 1).aside(0, "fault", t);
        }
        x.due(4, "count", 9);
    }

    // ---- a NAVE as a TEXT

    private static void faultIs(int want, String signs) {
        new Nave().write(3, signs).aside(want, "fault", 3);
    }

    /** For each byte at this place of a text, -128 first, what its fault is. */
    private static void faultsByByte(String signs, int place, int[] want) {
        for (int from = -128; from <= 127; from += 128) {
            Nave x = new Nave().write(3, signs);
            for (int v = from; v < from + 128; v++) {
                x.call("put", 3, place, v);
                if (x.call("fault", 3) != want[v + 128]) {
                    Check.due("fault(3) of '" + signs + "' with " + v + " at place " + place, x.call("fault", 3), want[v + 128]);
                }
            }
        }
    }

    /** All bytes with the same fault, but these signs with another. */
    private static int[] faults(int all, String but, int then) {
        int[] want = new int[256];
        for (int v = -128; v <= 127; v++) {
            want[v + 128] = v >= 0 && but.indexOf(v) >= 0 ? then : all;
        }
        return want;
    }

    private static int[] faults(int[] all, String but, int then) {
        for (int j = 0; j < but.length(); j++) {
            all[but.charAt(j) + 128] = then;
        }
        return all;
    }

    @Says(promise = TERMS, sentence = BLANKS)
    static void withoutPolesAtFirst() {
        Nave x = new Nave().due(0, "count", 0).due(0, "count", 1).refuses(STATE, "holds").write(0, "p160m19").refuses(STATE, "holds");
        x.aside(NONE, "fault", 0).refuses(STATE, "year").due(1, "nave", 0).tells(1, 0, "holds");
    }

    @Says(promise = TERMS, sentence = BLANKS)
    static void blanksAsManyAsWanted() {
        for (int many : new int[] {0, 1, 2, 52, 53}) {
            faultIs(NONE, " ".repeat(many) + "p160m19");
            faultIs(NONE, "p160m19" + " ".repeat(many));
            faultIs(NONE, "p160" + " ".repeat(many) + "m19");
            faultIs(NONE, "m19" + " ".repeat(many) + "p160");
            faultIs(NONE, " ".repeat(many / 2) + "p160" + " ".repeat(many - many / 2) + "m19");
        }
        faultIs(NONE, "  p160 m10  p260   m20    p360     m30p460      ");
    }

    @Says(promise = TERMS, sentence = BLANKS)
    static void blankIsThirtyTwoAlone() {
        faultsByByte("p160 m19", 4, faults(faults(4, LETTERS + "m", 5), " ", NONE));
        faultsByByte(" p160m19", 0, faults(faults(0, LETTERS + "m", 1), " ", NONE));
        int[] behind = faults(faults(7, LETTERS + "m", 8), " ", NONE);
        faultsByByte("p160m19 ", 7, behind);
    }

    @Says(promise = TERMS, sentence = BLANKS)
    static void noBlankWithinItems() {
        faultIs(1, "p 160m19");
        faultIs(2, "p1 60m19");
        faultIs(3, "p16 0m19");
        faultIs(1, "m 19p160");
        faultIs(2, "m1 9p160");
        faultIs(5, "p160m 19");
        faultIs(6, "p160m1 9");
        faultIs(1, "p    m19");
        faultIs(1, "m   p160");
    }

    @Says(promise = TERMS, sentence = POLES)
    static void itemsInAnyOrder() {
        String[] orders = {"p101r202m11m22m33", "m11p101m22r202m33", "m11m22m33p101r202", "p101m11m22m33r202", "m11m22p101r202m33"};
        for (String signs : orders) {
            Nave x = Nave.by(signs).due(2, "count", 0).due(3, "count", 1);
            for (int k = 0; k < 2; k++) {
                x.tells(1, k, "pole", k, 0).tells(1, k + 1, "pole", k, 1).tells(1, k + 1, "pole", k, 2);
            }
            for (int i = 0; i < 3; i++) {
                x.tells(1, i + 1, "one", i, 0).tells(1, i + 1, "one", i, 1);
            }
        }
    }

    @Says(promise = TERMS, sentence = POLES)
    static void polesOneToFour() {
        faultIs(3, "m19");
        for (int many = 1; many <= 4; many++) {
            Nave x = Nave.by("p160".repeat(many - 1) + "s945" + "m19").due(many, "count", 0).tells(1, SPLICED, "pole", many - 1, 0);
            x.tells(1, 9, "pole", many - 1, 1).tells(1, 45, "pole", many - 1, 2).refuses(BAD, "pole", many, 0);
        }
        for (int kind = POLE; kind <= OAK; kind++) {
            faultIs(16, "p160r160l160s160" + LETTERS.charAt(kind) + "160m19");
        }
        faultIs(16, "p160p160p160p160p160p160m19");
    }

    /** One of PEOPLE, on the last of four POLES: what each call says of it. */
    @Says(promise = TERMS, sentence = POLES)
    static void lastOfFourPoles() {
        Nave x = Nave.by("p100p100p100p505m35").due(5, "best", 0).rowIs(0, 3).tells(1, 8, "fewest").tells(0, 5, "seated", 0);
        x.aside(5, "duel", 1).aside(0, "duel", 2).aside(5, "duel", 3).due(5, "sit", 0, 3).tells(1, 3, "one", 0, 2);
        x.tells(1, 1, "pole", 3, 6).tells(1, 5, "pole", 3, 5).tells(15, 0, "holds").due(2, "gives", 3).tells(0, 8, "later", 2);
        x.due(1, "laces", 2, 1).rowIs(1, NONE, 3).tellsParts(3, 4, "odds", 0, 3).tellsParts(15, 4, "mid", 3).aside(5, "duel", 0);
        x.aside(0, "duel", 2).due(0, "year").tells(1, 2, "pole", 3, 3).tells(7, 4, "holds").tellsParts(0, 1, "odds", 0, 3);
        x.due(8, "year").due(8, "count", 4).tells(1, 1, "pole", 3, 7).due(NONE, "gives", 3).aside(0, "duel", 1);
    }

    @Says(promise = TERMS, sentence = POLES)
    static void tallOneToNine() {
        for (int kind = POLE; kind <= OAK; kind++) {
            char letter = LETTERS.charAt(kind);
            faultsByByte(letter + "160m19", 1, faults(1, "123456789", NONE));
            Nave.by(letter + "160m19").tells(1, 1, "pole", 0, 1);
            Nave.by(letter + "960m19").tells(1, 9, "pole", 0, 1);
        }
    }

    @Says(promise = TERMS, sentence = POLES)
    static void strongNoughtToSixty() {
        for (int kind = POLE; kind <= OAK; kind++) {
            char letter = LETTERS.charAt(kind);
            for (int strong : new int[] {0, 1, 9, 10, 59, 60}) {
                Nave.by(letter + "1" + strong / 10 + strong % 10 + "m19").tells(1, strong, "pole", 0, 2);
            }
            faultIs(2, letter + "161m19");
            faultIs(2, letter + "170m19");
        }
        faultsByByte("p100m19", 2, faults(2, "0123456", NONE));
        faultsByByte("p100m19", 3, faults(3, "0123456789", NONE));
        faultsByByte("p150m19", 3, faults(3, "0123456789", NONE));
        faultsByByte("p160m19", 3, faults(faults(3, "123456789", 2), "0", NONE));
    }

    @Says(promise = TERMS, sentence = PEOPLE)
    static void peopleOneToFive() {
        faultIs(4, "p160");
        for (int many = 1; many <= 5; many++) {
            Nave x = Nave.by("p160" + "m19".repeat(many - 1) + "m73").due(many, "count", 1).tells(1, 7, "one", many - 1, 0);
            x.tells(1, 3, "one", many - 1, 1).refuses(BAD, "one", many, 0);
        }
        faultIs(19, "p160m19m19m19m19m19m19");
        faultIs(15, "m19m19m19m19m19m19p160");
        faultIs(19, "p160m19m19m19m19m19m19m19");
    }

    /** The last of five PEOPLE, who alone is DEVOUT: what each call says. */
    @Says(promise = TERMS, sentence = PEOPLE)
    static void lastOfFivePeople() {
        Nave x = Nave.by("p560m10m20m30m40m55").due(5, "best", 1).rowIs(1, NONE, NONE, NONE, NONE, 0).tells(0, 5, "seated", 1);
        x.aside(5, "duel", 1).aside(0, "duel", 2).due(7, "sit", 4, 0).due(16, "count", 5).tells(1, 16, "pole", 0, 6);
        x.tells(1, 7, "pole", 0, 5).tells(1, 0, "one", 4, 2).tells(1, 5, "one", 4, 3).due(5, "count", 6).tells(5, 0, "later", 40);
        x.tellsParts(3, 4, "odds", 4, 3).tellsParts(0, 1, "odds", 3, 3).tellsParts(15, 4, "mid", 3).aside(5, "duel", 0);
        x.aside(0, "duel", 2).aside(5, "duel", 3).due(5, "down", 4).due(0, "count", 5).due(5, "lots", 1, 5).tells(1, 0, "one", 4, 2);
        x.due(0, "lots", 1, 5).tells(1, NONE, "one", 4, 2).tells(1, 1, "fewest");
    }

    @Says(promise = TERMS, sentence = PEOPLE)
    static void weightOneToNine() {
        faultsByByte("p160m19", 5, faults(5, "123456789", NONE));
        Nave.by("p160m10").tells(1, 1, "one", 0, 0);
        Nave.by("p160m90").tells(1, 9, "one", 0, 0);
    }

    @Says(promise = TERMS, sentence = PEOPLE)
    static void devoutNoneToNine() {
        faultsByByte("p160m19", 6, faults(6, "0123456789", NONE));
        Nave.by("p160m10").tells(1, 0, "one", 0, 1);
        Nave.by("p160m19").tells(1, 9, "one", 0, 1);
    }

    @Says(promise = TERMS, sentence = PEOPLE)
    static void letterOfPeople() {
        faultsByByte("p160m19", 4, faults(faults(faults(4, LETTERS, 7), "m", NONE), " ", 5));
    }

    // ---- its FAULT

    @Says(promise = TERMS, sentence = NONE_SUCH)
    static void faultOfALetter() {
        faultIs(0, "x160m19");
        faultIs(4, "p160x19");
        faultIs(7, "p160m19x");
        faultIs(7, "p160m190");
        faultIs(4, "p1600m19");
        faultIs(8, "p160m19 9");
        faultIs(59, "p160m19" + " ".repeat(52) + "x");
        faultIs(0, "P160m19");
        faultIs(4, "p160M19");
    }

    @Says(promise = TERMS, sentence = NONE_SUCH)
    static void faultOfAFigure() {
        faultIs(1, "p060m19");
        faultIs(1, "pp160m19");
        faultIs(2, "p1p60m19");
        faultIs(3, "p16m19");
        faultIs(3, "p17x");
        faultIs(1, "m09p160");
        faultIs(2, "m1p160");
        faultIs(1, "mm19p160");
        faultIs(14, "p160 m19 p160m0");
    }

    @Says(promise = TERMS, sentence = NONE_SUCH)
    static void faultIsTheFirst() {
        faultIs(1, "p061m09x");
        faultIs(2, "p161x");
        faultIs(2, "p1x9 m0");
        faultIs(4, "p160xp161");
        faultIs(6, "p160m1xm0x");
        faultIs(0, "x");
        faultIs(16, "p160p160p160p160p");
        faultIs(16, "p160p160p160p160p0");
        faultIs(16, "p160p160p160p160p161m19");
        faultIs(17, "p160p160p160p160 r1");
        faultIs(19, "p160m19m19m19m19m19m");
        faultIs(19, "p160m19m19m19m19m19m0");
        faultIs(21, "p160 m19m19m19m19m19 m00");
        faultIs(15, "m19m19m19m19m19m19");
    }

    @Says(promise = TERMS, sentence = TOO_STRONG)
    static void faultOfTwoFigures() {
        for (int kind = POLE; kind <= OAK; kind++) {
            Nave x = new Nave().write(0, "m19 " + LETTERS.charAt(kind) + "100");
            for (int strong = 0; strong <= 99; strong++) {
                x.call("put", 0, 6, '0' + strong / 10);
                x.call("put", 0, 7, '0' + strong % 10);
                x.due(strong <= 60 ? NONE : 6, "fault", 0);
            }
        }
        faultIs(2, "p161");
        faultIs(2, "p199");
        faultIs(2, "p161m19");
        faultIs(19, "p160 p160p160 m19p161");
    }

    @Says(promise = TERMS, sentence = TOO_EARLY)
    static void faultOfAnEarlyEnd() {
        String[] whole = {"p960m99", "m99p960", "p160p160p160p160m19m19m19m19m19"};
        for (String signs : whole) {
            int last = signs.startsWith("p160p160") ? 18 : 6;
            for (int n = 0; n <= last; n++) {
                faultIs(n, signs.substring(0, n));
            }
        }
        for (String end : new String[] {"p", "p1", "p16", "p17", "m", "m1"}) {
            String signs = "p160m19" + " ".repeat(53 - end.length()) + end;
            faultIs(60, signs);
            faultIs(7 + end.length(), "p160m19" + end);
        }
    }

    @Says(promise = TERMS, sentence = LACKING)
    static void faultOfWhatIsLacking() {
        for (int n = 0; n <= 60; n++) {
            faultIs(n, " ".repeat(n));
            if (n >= 4) {
                faultIs(n, "p160" + " ".repeat(n - 4));
                faultIs(n, " ".repeat(n - 3) + "m19");
            }
        }
        faultIs(16, "p160r160l160s160");
        faultIs(15, "m19m19m19m19m19");
        faultIs(NONE, "p160r160l160s160m19");
        faultIs(NONE, "m19m19m19m19m19p160");
    }

    // ---- KINDS and letters

    @Says(promise = TERMS, sentence = KINDS)
    static void lettersOfKinds() {
        int[] letters = {112, 114, 108, 115, 100, 107};
        for (int kind = POLE; kind <= OAK; kind++) {
            Nave x = new Nave().write(0, "x145m19").due(1120, "put", 0, 0, letters[kind]).due(1, "nave", 0).tells(1, kind, "pole", 0, 0);
            x.tells(1, 45, "pole", 0, 2);
        }
        int[] want = faults(faults(faults(0, "prlsdk", NONE), "m", 3), " ", 1);
        faultsByByte("p145m19", 0, want);
    }

    /** For each KIND that a POLE is of, those from 1 to 5 that it IS of. */
    @Says(promise = TERMS, sentence = KINDS)
    static void whatAKindIs() {
        String[] is = {"", "1", "2", "23", "24", "15"};
        for (int kind = POLE; kind <= OAK; kind++) {
            Nave x = Nave.by(LETTERS.charAt(kind) + "720 m10");
            for (int other = ROTTEN; other <= OAK; other++) {
                boolean unlike = x.call("mark", 0, other) == FINDING;
                Check.due(LETTERS.charAt(kind) + " is of KIND " + other, unlike ? 0 : 1, is[kind].indexOf('0' + other) >= 0 ? 1 : 0);
            }
        }
    }

    private TextTerms() {
    }
}
