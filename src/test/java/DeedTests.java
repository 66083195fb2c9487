/** Promises 16 to 23: deeds, undone and kept. */
final class DeedTests {
    private static final int BAD = PoleNave.BAD, FULL = PoleNave.FULL, STATE = PoleNave.STATE, NONE = PoleNave.NONE;
    private static final int LOWEST = Check.LOWEST, HIGHEST = Check.HIGHEST;

    static void promise16Sit() {
        PoleNave x = Check.naveBy("p510 d305 l400 m35 m93 m11 m77");
        Check.due("sit(0, 0)", x.sit(0, 0), 5);
        Check.due("sit(1, 0) by which it doesn't hold", x.sit(1, 0), 15);
        Check.due("sit(2, 1)", x.sit(2, 1), 1);
        Check.due("sit(3, 2)", x.sit(3, 2), 9);
        Check.due("count(2)", x.count(2), 4);
        Check.due("count(5)", x.count(5), 15);
        Check.refuses(x, "sit(0, 1) of one who is up", () -> x.sit(0, 1), STATE);
        Check.refuses(x, "sit(0, 0) where one is", () -> x.sit(0, 0), STATE);
        x.year();
        Check.refuses(x, "sit(0, 0) on one that is down", () -> x.sit(0, 0), STATE);
        Check.due("sit(0, 1) from the ground again", x.sit(0, 1), 5);
        int[][] bad = {{-1, 0}, {4, 0}, {1, -1}, {1, 3}, {0, 3}, {4, 2}, {HIGHEST, 0}, {1, LOWEST}, {1, NONE}};
        for (int[] c : bad) {
            Check.refuses(x, "sit(" + c[0] + ", " + c[1] + ")", () -> x.sit(c[0], c[1]), BAD);
        }
        Check.stones(x, 40 - x.count(2));
        Check.refuses(x, "sit(1, 1) behind 40 deeds", () -> x.sit(1, 1), FULL);
        Check.refuses(x, "sit(0, 1) of one who is up behind 40 deeds", () -> x.sit(0, 1), STATE);
        Check.refuses(x, "sit(1, 0) on one that is down behind 40 deeds", () -> x.sit(1, 0), STATE);
        Check.refuses(x, "sit(1, 3) behind 40 deeds", () -> x.sit(1, 3), BAD);
        PoleNave empty = new PoleNave();
        Check.refuses(empty, "sit(0, 0) without poles", () -> empty.sit(0, 0), BAD);
        PoleNave last = Check.naveBy("p510 m35");
        Check.stones(last, 39);
        Check.due("sit(0, 0) as deed 40", last.sit(0, 0), 5);
    }

    static void promise17Down() {
        PoleNave x = Check.naveBy("p560 d305 m38 m92");
        x.sit(0, 0);
        x.sit(1, 1);
        Check.due("down(0)", x.down(0), 5);
        Check.poleTells(x, 0, 6, 0);
        Check.refuses(x, "down(0) of one on the ground", () -> x.down(0), STATE);
        Check.due("down(1)", x.down(1), 2);
        Check.due("count(2)", x.count(2), 4);
        Check.due("count(5)", x.count(5), 0);
        Check.due("sit(0, 1) behind down(0)", x.sit(0, 1), 4);
        Check.refuses(x, "down(-1)", () -> x.down(-1), BAD);
        Check.refuses(x, "down(2)", () -> x.down(2), BAD);
        Check.refuses(x, "down(lowest)", () -> x.down(LOWEST), BAD);
        Check.stones(x, 35);
        Check.refuses(x, "down(0) behind 40 deeds", () -> x.down(0), FULL);
        Check.refuses(x, "down(1) on the ground behind 40 deeds", () -> x.down(1), STATE);
        Check.refuses(x, "down(2) behind 40 deeds", () -> x.down(2), BAD);
        PoleNave thrown = Check.naveBy("p500 m10");
        thrown.sit(0, 0);
        thrown.year();
        Check.refuses(thrown, "down(0) of one who was let down", () -> thrown.down(0), STATE);
        PoleNave empty = new PoleNave();
        Check.refuses(empty, "down(0) without people", () -> empty.down(0), BAD);
    }

    static void promise18Lace() {
        PoleNave x = Check.naveBy("p560 p500 m38 m92");
        Check.due("lace(0) at first", x.lace(0), 0);
        x.sit(0, 0);
        x.sit(1, 1);
        Check.years(x, 3);
        Check.poleTells(x, 0, 3, 6);
        Check.due("lace(0)", x.lace(0), 6);
        Check.poleTells(x, 0, 3, 0);
        Check.poleTells(x, 0, 6, 1);
        Check.due("lace(0) again", x.lace(0), 0);
        Check.due("count(2)", x.count(2), 8);
        Check.refuses(x, "lace(1) that is down", () -> x.lace(1), STATE);
        Check.refuses(x, "lace(-1)", () -> x.lace(-1), BAD);
        Check.refuses(x, "lace(2)", () -> x.lace(2), BAD);
        Check.refuses(x, "lace(highest)", () -> x.lace(HIGHEST), BAD);
        x.year();
        Check.poleTells(x, 0, 3, 2);
        Check.stones(x, 31);
        Check.refuses(x, "lace(0) behind 40 deeds", () -> x.lace(0), FULL);
        Check.refuses(x, "lace(1) that is down behind 40 deeds", () -> x.lace(1), STATE);
        Check.refuses(x, "lace(2) behind 40 deeds", () -> x.lace(2), BAD);
        PoleNave empty = new PoleNave();
        Check.refuses(empty, "lace(0) without poles", () -> empty.lace(0), BAD);
    }

    static void promise19Stone() {
        PoleNave empty = new PoleNave();
        Check.refuses(empty, "stone() without poles", empty::stone, STATE);
        PoleNave x = Check.naveBy("p560 m38");
        x.year();
        for (int many = 1; many <= 39; many++) {
            Check.due("stone()", x.stone(), many);
        }
        Check.due("count(7)", x.count(7), 39);
        Check.due("count(2)", x.count(2), 40);
        Check.refuses(x, "stone() behind 40 deeds", x::stone, FULL);
        Check.poleTells(x, 0, 3, 1);
    }

    static void promise20Year() {
        PoleNave empty = new PoleNave();
        Check.refuses(empty, "year() without poles", empty::year, STATE);
        PoleNave x = Check.naveBy("p560 p503 r560 p504 m38 m31 m41 m40");
        x.sit(0, 0);
        x.sit(2, 1);
        x.sit(3, 3);
        Check.due("year() by which one gives", x.year(), 2);
        Check.oneTells(x, 2, 2, NONE);
        Check.oneTells(x, 3, 2, 3);
        Check.poleTells(x, 0, 3, 2);
        Check.poleTells(x, 1, 3, 0);
        Check.poleTells(x, 2, 3, 1);
        Check.poleTells(x, 3, 3, 2);
        Check.due("year() of one that bears as much as is on it", x.year(), 8);
        Check.due("year() by which none gives", x.year(), 0);
        Check.poleTells(x, 0, 3, 6);
        Check.poleTells(x, 1, 3, 0);
        Check.poleTells(x, 2, 3, 3);
        Check.poleTells(x, 3, 3, 2);
        Check.due("count(3)", x.count(3), 3);
        Check.due("count(4)", x.count(4), 10);
        Check.due("count(2)", x.count(2), 6);
        Check.stones(x, 34);
        Check.refuses(x, "year() behind 40 deeds", x::year, FULL);
        wearEnds();
        manyGiveAtOnce();
    }

    private static void wearEnds() {
        PoleNave x = Check.naveBy("d930 p110 m10");
        x.year();
        x.sit(0, 0);
        Check.years(x, 9);
        Check.poleTells(x, 0, 3, 19);
        Check.poleTells(x, 1, 3, 10);
        x.year();
        Check.poleTells(x, 0, 3, 20);
        x.year();
        Check.poleTells(x, 0, 3, 20);
        Check.years(x, 8);
        Check.poleTells(x, 1, 3, 20);
        x.year();
        Check.poleTells(x, 1, 3, 20);
        Check.due("count(3)", x.count(3), 21);
        Check.due("count(4)", x.count(4), 0);
    }

    private static void manyGiveAtOnce() {
        PoleNave x = Check.naveBy("p500 p501 p502 p503 m10 m20 m30 m30");
        for (int i = 0; i < 4; i++) {
            x.sit(i, i);
        }
        Check.due("year() by which three give", x.year(), 7);
        Check.due("count(5)", x.count(5), 8);
        Check.due("year() by which the last one gives", x.year(), 8);
        Check.due("year() with all down", x.year(), 0);
        Check.due("count(3)", x.count(3), 3);
    }

    static void promise21Undo() {
        PoleNave empty = new PoleNave();
        Check.aside(empty, "undo(0) without poles", () -> empty.undo(0), 0);
        Check.refuses(empty, "undo(1) without poles", () -> empty.undo(1), BAD);
        long[] digests = new long[8];
        PoleNave x = Check.naveBy("p510 k605 m35 m93 m11");
        Check.fill(x, 0, 4, 5);
        digests[0] = x.digest();
        x.sit(0, 0);
        digests[1] = x.digest();
        x.sit(1, 1);
        digests[2] = x.digest();
        x.year();
        digests[3] = x.digest();
        x.stone();
        digests[4] = x.digest();
        x.lace(0);
        digests[5] = x.digest();
        x.down(0);
        digests[6] = x.digest();
        x.year();
        digests[7] = x.digest();
        Check.refuses(x, "undo(-1)", () -> x.undo(-1), BAD);
        Check.refuses(x, "undo(8)", () -> x.undo(8), BAD);
        Check.refuses(x, "undo(highest)", () -> x.undo(HIGHEST), BAD);
        Check.refuses(x, "undo(lowest)", () -> x.undo(LOWEST), BAD);
        Check.aside(x, "undo(7)", () -> x.undo(7), 0);
        for (int n = 6; n >= 0; n--) {
            Check.due("undo(" + n + ")", x.undo(n), 1);
            Check.due("digest() behind undo(" + n + ")", x.digest(), digests[n]);
        }
        undoMany();
    }

    private static void undoMany() {
        PoleNave worn = Check.naveBy("p510 p520 p530 p540 m35");
        worn.sit(0, 1);
        Check.years(worn, 2);
        worn.undo(1);
        for (int k = 0; k < 4; k++) {
            Check.poleTells(worn, k, 3, 0);
        }
        Check.oneTells(worn, 0, 2, 1);
        Check.due("count(3) behind undo(1)", worn.count(3), 0);
        PoleNave x = Check.naveBy("p510 m35");
        x.keep(1);
        x.lots(20, 77);
        Check.due("undo(5) of lots", x.undo(5), 15);
        Check.due("count(2)", x.count(2), 5);
        PoleNave y = Check.naveBy("p510 m35");
        y.keep(1);
        y.lots(5, 77);
        Check.due("digest() behind undo(5)", x.digest(), y.digest());
        Check.stones(x, 35);
        Check.due("undo(0) of 40", x.undo(0), 40);
        Check.due("stone() behind undo(0)", x.stone(), 1);
        Check.due("on(1) behind undo()", x.on(1), 0);
        Check.due("count(7)", x.count(7), 0);
    }

    static void promise22Keep() {
        PoleNave x = Check.naveBy("p510 m35");
        Check.due("keep(0)", x.keep(0), 0);
        x.sit(0, 0);
        x.year();
        Check.due("keep(2)", x.keep(2), 2);
        Check.due("count(10)", x.count(10), 2);
        x.stone();
        Check.due("keep(0) again", x.keep(0), 3);
        Check.due("count(10)", x.count(10), 2);
        Check.due("count(2) behind keep(0)", x.count(2), 3);
        Check.refuses(x, "keep(-1)", () -> x.keep(-1), BAD);
        Check.refuses(x, "keep(3)", () -> x.keep(3), BAD);
        PoleNave empty = new PoleNave();
        Check.refuses(empty, "keep(0) without poles", () -> empty.keep(0), STATE);
        Check.refuses(empty, "keep(3) without poles", () -> empty.keep(3), BAD);
    }

    static void promise23On() {
        PoleNave x = Check.naveBy("p510 m35");
        x.sit(0, 0);
        x.year();
        x.stone();
        x.keep(1);
        long kept = x.digest();
        x.undo(0);
        x.stone();
        x.stone();
        Check.refuses(x, "on(-1)", () -> x.on(-1), BAD);
        Check.refuses(x, "on(3)", () -> x.on(3), BAD);
        Check.finds(x, "on(0)", () -> x.on(0), Check.NOTHING);
        Check.due("on(1)", x.on(1), 3);
        Check.due("digest() behind on(1)", x.digest(), kept);
        Check.due("undo(2) of what was kept", x.undo(2), 1);
        Check.due("count(7)", x.count(7), 0);
        Check.poleTells(x, 0, 3, 2);
        x.down(0);
        Check.due("on(1) once more", x.on(1), 3);
        Check.due("digest() behind on(1) once more", x.digest(), kept);
        PoleNave empty = new PoleNave();
        Check.finds(empty, "on(0) without poles", () -> empty.on(0), Check.NOTHING);
    }

    private DeedTests() {
    }
}
