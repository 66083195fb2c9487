/** Promises 10 to 15: what a text tells, poles, people, kinds. */
final class NaveTests {
    private static final int BAD = PoleNave.BAD, STATE = PoleNave.STATE, NONE = PoleNave.NONE;
    private static final int LOWEST = Check.LOWEST, HIGHEST = Check.HIGHEST;
    private static final String BLANKS = " ".repeat(60);

    static void promise10Fault() {
        PoleNave x = new PoleNave();
        Check.refuses(x, "fault(-1)", () -> x.fault(-1), BAD);
        Check.refuses(x, "fault(4)", () -> x.fault(4), BAD);
        Check.finds(x, "fault(3)", () -> x.fault(3), Check.NOTHING);
        goodTexts(x);
        faultsOfPoles(x);
        faultsOfPeople(x);
        faultsOfOneSign(x);
    }

    private static void faultOf(PoleNave x, String signs, int want) {
        Check.write(x, 3, signs);
        Check.aside(x, "fault(3) of '" + signs + "'", () -> x.fault(3), want);
    }

    private static void goodTexts(PoleNave x) {
        String[] good = {
            "p160m19", "m19p160", "  m19   p160  ", "p100r100l100s100m10", "d100k100m10", "p900m90", "p160m10m20",
            "m10m10m10m10m10p160", "p160p160p160p160m19m19m19m19m19", "m10 p100 m10 p100 m10 p100 m10 p100 m10",
            ("p160m19" + BLANKS).substring(0, 60), (BLANKS + "p160m19").substring(7),
        };
        for (String signs : good) {
            faultOf(x, signs, NONE);
        }
    }

    private static void faultsOfPoles(PoleNave x) {
        faultOf(x, "p", 1);
        faultOf(x, "p0", 1);
        faultOf(x, "p060m19", 1);
        faultOf(x, "p 160m19", 1);
        faultOf(x, "pa60m19", 1);
        faultOf(x, "p/60m19", 1);
        faultOf(x, "p:60m19", 1);
        faultOf(x, "p1", 2);
        faultOf(x, "p1x", 2);
        faultOf(x, "p1 60m19", 2);
        faultOf(x, "p1/0m19", 2);
        faultOf(x, "p1:0m19", 2);
        faultOf(x, "p16", 3);
        faultOf(x, "p17", 3);
        faultOf(x, "p16 0m19", 3);
        faultOf(x, "p16x", 3);
        faultOf(x, "p17x", 3);
        faultOf(x, "p161m19", 2);
        faultOf(x, "p170m19", 2);
        faultOf(x, "p199m19", 2);
        faultOf(x, "m19 p161", 6);
        faultOf(x, "p160", 4);
        faultOf(x, "p160 ", 5);
        faultOf(x, "p160x", 4);
        faultOf(x, "p160M19", 4);
        faultOf(x, "m19m19", 6);
        faultOf(x, "p160p160p160p160p160m19", 16);
        faultOf(x, "p100r100l100s100d100m10", 16);
        faultOf(x, "p160p160p160p160m19p", 19);
        faultOf(x, "p160p160p160p160 p0", 17);
        faultOf(x, "p160p160p160p160p199", 16);
        faultOf(x, "p160p160p160p160", 16);
    }

    private static void faultsOfPeople(PoleNave x) {
        faultOf(x, "", 0);
        faultOf(x, " ", 1);
        faultOf(x, BLANKS, 60);
        faultOf(x, "m", 1);
        faultOf(x, "m0", 1);
        faultOf(x, "m09p160", 1);
        faultOf(x, "m 19p160", 1);
        faultOf(x, "m:9p160", 1);
        faultOf(x, "m1", 2);
        faultOf(x, "m1x", 2);
        faultOf(x, "m1 9p160", 2);
        faultOf(x, "m1/p160", 2);
        faultOf(x, "m1:p160", 2);
        faultOf(x, "m10", 3);
        faultOf(x, "p160m", 5);
        faultOf(x, "p160m0", 5);
        faultOf(x, "p160m1", 6);
        faultOf(x, "m19p160x", 7);
        faultOf(x, "m19p160 19", 8);
        faultOf(x, "m19m19m19m19m19m19p160", 15);
        faultOf(x, "p160m19m19m19m19m19m", 19);
        faultOf(x, "p160 m10m20m30m40m50 m0", 21);
    }

    private static void faultsOfOneSign(PoleNave x) {
        String known = "prlsdkm ";
        x.text(3, 1);
        for (int sign = -128; sign <= 127; sign++) {
            x.put(3, 0, sign);
            Check.due("fault(3) of sign " + sign, x.fault(3), sign >= 0 && known.indexOf(sign) >= 0 ? 1 : 0);
        }
    }

    static void promise11Nave() {
        PoleNave x = new PoleNave();
        Check.refuses(x, "nave(-1)", () -> x.nave(-1), BAD);
        Check.refuses(x, "nave(4)", () -> x.nave(4), BAD);
        Check.finds(x, "nave(0)", () -> x.nave(0), Check.NOTHING);
        Check.write(x, 3, "r215 k930 m37 p108");
        Check.due("nave(3)", x.nave(3), 3);
        Check.pole(x, 0, 1, 2, 15, 0, 15, 0, 0, 0);
        Check.pole(x, 1, 5, 9, 30, 0, 30, 0, 0, 0);
        Check.pole(x, 2, 0, 1, 8, 0, 8, 0, 0, 0);
        Check.due("count(1)", x.count(1), 1);
        x.text(3, 0);
        Check.poleTells(x, 1, 2, 30);
        Check.finds(x, "nave(0) while one stands", () -> x.nave(0), Check.NOTHING);
        Check.refuses(x, "nave(3) of a fault", () -> x.nave(3), STATE);
        Check.write(x, 0, "p510m35m35m35m35x");
        Check.refuses(x, "nave(0) of a late fault", () -> x.nave(0), STATE);
        naveAnew();
        eachLetterItsKind();
    }

    private static void naveAnew() {
        PoleNave x = Check.naveBy("p503m35m11");
        x.sit(0, 0);
        x.keep(0);
        x.stone();
        x.keep(1);
        x.year();
        x.keep(2);
        Check.fill(x, 1, 4);
        Check.due("count(4) ahead of nave(0)", x.count(4), 1);
        int asked = x.asked();
        Check.due("nave(0) anew", x.nave(0), 1);
        Check.due("asked() behind nave(0)", x.asked(), asked);
        int[] counts = {1, 2, 0, 0, 0, 0, 0, 0, 1, 1, 0, 0};
        for (int what = 0; what < counts.length; what++) {
            Check.due("count(" + what + ") of a nave anew", x.count(what), counts[what]);
        }
        Check.finds(x, "on(0)", () -> x.on(0), Check.NOTHING);
        Check.finds(x, "on(1)", () -> x.on(1), Check.NOTHING);
        Check.finds(x, "on(2)", () -> x.on(2), Check.NOTHING);
        Check.oneTells(x, 0, 2, NONE);
        Check.poleTells(x, 0, 3, 0);
        Check.holds(x, 1, 4);
        Check.due("nave(0) in all", x.nave(0), 1);
        Check.write(x, 1, "d111k222m33");
        Check.due("nave(1) with more poles", x.nave(1), 2);
        Check.due("nave(0) with fewer poles", x.nave(0), 1);
        Check.refuses(x, "pole(1, 0)", () -> x.pole(1, 0), BAD);
    }

    private static void eachLetterItsKind() {
        String letters = "prlsdk";
        for (int kind = 0; kind < 6; kind++) {
            PoleNave x = Check.naveBy(letters.charAt(kind) + "245m10");
            Check.pole(x, 0, kind, 2, 45);
        }
    }

    static void promise12Pole() {
        PoleNave x = Check.naveBy("p510 d305 l400 m35 m92 m11");
        Check.pole(x, 0, 0, 5, 10, 0, 10, 0, 0, 0);
        Check.pole(x, 1, 4, 3, 5, 0, 11, 0, 0, 0);
        Check.pole(x, 2, 2, 4, 0, 0, 0, 0, 0, 0);
        x.sit(0, 0);
        x.sit(2, 0);
        x.sit(1, 2);
        Check.pole(x, 0, 0, 5, 10, 0, 10, 6, 5, 0);
        Check.pole(x, 2, 2, 4, 0, 0, 0, 10, 2, 0);
        x.year();
        Check.pole(x, 0, 0, 5, 10, 2, 6, 6, 5, 0);
        Check.pole(x, 1, 4, 3, 5, 1, 10, 0, 0, 0);
        Check.pole(x, 2, 2, 4, 0, 0, 0, 0, 0, 1);
        x.year();
        Check.pole(x, 0, 0, 5, 10, 4, 2, 6, 5, 0);
        x.year();
        Check.pole(x, 0, 0, 5, 10, 4, 2, 0, 0, 1);
        Check.pole(x, 1, 4, 3, 5, 3, 8, 0, 0, 0);
        int[][] bad = {{-1, 0}, {3, 0}, {0, -1}, {0, 8}, {HIGHEST, 0}, {LOWEST, 7}, {0, HIGHEST}, {0, LOWEST}};
        for (int[] c : bad) {
            Check.refuses(x, "pole(" + c[0] + ", " + c[1] + ")", () -> x.pole(c[0], c[1]), BAD);
        }
        PoleNave empty = new PoleNave();
        Check.refuses(empty, "pole(0, 0) without poles", () -> empty.pole(0, 0), BAD);
    }

    static void promise13One() {
        PoleNave x = Check.naveBy("p560 d305 m38 m92");
        Check.oneTells(x, 0, 0, 3);
        Check.oneTells(x, 0, 1, 8);
        Check.oneTells(x, 0, 2, NONE);
        Check.oneTells(x, 0, 3, 0);
        x.sit(0, 0);
        x.sit(1, 1);
        Check.oneTells(x, 0, 2, 0);
        Check.oneTells(x, 0, 3, 5);
        Check.oneTells(x, 1, 0, 9);
        Check.oneTells(x, 1, 1, 2);
        Check.oneTells(x, 1, 2, 1);
        Check.oneTells(x, 1, 3, 2);
        x.down(0);
        Check.oneTells(x, 0, 2, NONE);
        Check.oneTells(x, 0, 3, 0);
        int[][] bad = {{-1, 0}, {2, 0}, {0, -1}, {0, 4}, {HIGHEST, 0}, {LOWEST, 3}, {0, HIGHEST}, {0, LOWEST}};
        for (int[] c : bad) {
            Check.refuses(x, "one(" + c[0] + ", " + c[1] + ")", () -> x.one(c[0], c[1]), BAD);
        }
        PoleNave empty = new PoleNave();
        Check.refuses(empty, "one(0, 0) without people", () -> empty.one(0, 0), BAD);
    }

    static void promise14Mark() {
        PoleNave x = Check.naveBy("p720 r720 l720 s720 m10");
        Check.aside(x, "mark(3, 2) at first", () -> x.mark(3, 2), 95);
        Check.aside(x, "mark(1, 1) at first", () -> x.mark(1, 1), 0);
        Check.years(x, 4);
        Check.aside(x, "mark(1, 1)", () -> x.mark(1, 1), 4);
        Check.aside(x, "mark(2, 2)", () -> x.mark(2, 2), 104);
        Check.aside(x, "mark(3, 2)", () -> x.mark(3, 2), 99);
        Check.aside(x, "mark(3, 3)", () -> x.mark(3, 3), 5);
        unlike(x, 0, 1, 2, 3, 4, 5);
        unlike(x, 1, 2, 3, 4, 5);
        unlike(x, 2, 1, 3, 4, 5);
        unlike(x, 3, 1, 4, 5);
        PoleNave y = Check.naveBy("d720 k720 k520 s103 m10");
        Check.aside(y, "mark(3, 3) of one that bears nothing", () -> y.mark(3, 3), 3);
        Check.aside(y, "mark(3, 2) of one that bears nothing", () -> y.mark(3, 2), 97);
        Check.years(y, 4);
        Check.aside(y, "mark(0, 2)", () -> y.mark(0, 2), 118);
        Check.aside(y, "mark(0, 4)", () -> y.mark(0, 4), 14);
        Check.aside(y, "mark(1, 1)", () -> y.mark(1, 1), 4);
        Check.aside(y, "mark(1, 5)", () -> y.mark(1, 5), 0);
        Check.aside(y, "mark(2, 1)", () -> y.mark(2, 1), 0);
        Check.aside(y, "mark(2, 5)", () -> y.mark(2, 5), 4);
        unlike(y, 0, 1, 3, 5);
        unlike(y, 1, 2, 3, 4);
        int[][] bad = {{0, 0}, {0, -1}, {0, 6}, {-1, 1}, {4, 1}, {4, 0}, {0, HIGHEST}, {LOWEST, 1}};
        for (int[] c : bad) {
            Check.refuses(y, "mark(" + c[0] + ", " + c[1] + ")", () -> y.mark(c[0], c[1]), BAD);
        }
        PoleNave empty = new PoleNave();
        Check.refuses(empty, "mark(0, 1) without poles", () -> empty.mark(0, 1), BAD);
    }

    private static void unlike(PoleNave x, int k, int... kinds) {
        for (int kind : kinds) {
            Check.finds(x, "mark(" + k + ", " + kind + ")", () -> x.mark(k, kind), Check.UNLIKE);
        }
    }

    static void promise15Bears() {
        bearsBy("p720", 20, 18, 16, 14, 12, 10, 8, 6, 4, 2, 0, 0);
        bearsBy("r720", 20, 18, 16, 10, 8, 7, 6, 4, 3, 2, 0, 0);
        bearsBy("l720", 20, 19, 18, 17, 16, 15, 14, 13, 12, 11, 10, 9, 8, 7, 6, 5, 4, 3, 2, 1, 0);
        bearsBy("s720", 15, 14, 13, 12, 11, 10, 9, 8, 7, 6, 5, 4, 3, 2, 1, 0, 0, 0, 0, 0, 0);
        bearsBy("d708", 22, 21, 20, 19, 18, 17, 16, 15, 14, 14, 14);
        bearsBy("k720", 20, 18, 16, 10, 8, 7, 6, 4, 3, 2, 0, 0);
        bearsBy("k619", 19, 17, 15, 9, 8, 6, 5, 4, 2, 1, 0, 0);
        bearsBy("k520", 20, 18, 16, 14, 12, 10, 8, 6, 4, 2, 0, 0);
        bearsBy("s104", 0, 0);
        bearsBy("d900", 18, 18, 18);
        PoleNave x = Check.naveBy("p720m10");
        int[][] bad = {{0, -1}, {0, 21}, {-1, 0}, {1, 0}, {0, HIGHEST}, {0, LOWEST}, {HIGHEST, 0}};
        for (int[] c : bad) {
            Check.refuses(x, "bears(" + c[0] + ", " + c[1] + ")", () -> x.bears(c[0], c[1]), BAD);
        }
        Check.aside(x, "bears(0, 20)", () -> x.bears(0, 20), 0);
        x.year();
        Check.aside(x, "bears(0, 0) behind a year", () -> x.bears(0, 0), 20);
        PoleNave empty = new PoleNave();
        Check.refuses(empty, "bears(0, 0) without poles", () -> empty.bears(0, 0), BAD);
    }

    private static void bearsBy(String pole, int... want) {
        PoleNave x = Check.naveBy(pole + "m10");
        for (int wear = 0; wear < want.length; wear++) {
            Check.due("bears(0, " + wear + ") of " + pole, x.bears(0, wear), want[wear]);
        }
    }

    private NaveTests() {
    }
}
