/** Promises 34 to 37: by turns, chances, lots. */
final class ChanceTests {
    private static final int BAD = PoleNave.BAD, FULL = PoleNave.FULL, STATE = PoleNave.STATE;
    private static final int LOWEST = Check.LOWEST, HIGHEST = Check.HIGHEST;

    static void promise34Duel() {
        PoleNave empty = new PoleNave();
        Check.refuses(empty, "duel(0) without poles", () -> empty.duel(0), STATE);
        Check.refuses(empty, "duel(5) without poles", () -> empty.duel(5), BAD);
        PoleNave x = Check.naveBy("p510 m35 m46 m28");
        duels(x, 0, 5, 0, 5, 0);
        x.sit(0, 0);
        x.sit(2, 0);
        duels(x, 10, 10, 5, 10, 5);
        x.sit(1, 0);
        duels(x, 0, 0, 0, 0, 0);
        PoleNave two = Check.naveBy("p510 p310 m35 m46 m28");
        two.sit(0, 0);
        duels(two, 5, 10, 5, 10, 5);
        PoleNave second = Check.naveBy("p900 p505 m90 m34");
        duels(second, 0, 4, 0, 4, 0);
        second.sit(1, 1);
        duels(second, 4, 4, 0, 4, 0);
        PoleNave last = Check.naveBy("p900 p900 p900 p505 m90 m90 m90 m90 m34");
        duels(last, 0, 4, 0, 4, 0);
        PoleNave edge = Check.naveBy("p505 m35");
        duels(edge, 0, 5, 0, 5, 0);
        PoleNave fallen = Check.naveBy("p500 m19 m19");
        fallen.sit(0, 0);
        fallen.year();
        duels(fallen, 0, 0, 0, 0, 0);
        PoleNave worn = Check.naveBy("p506 m35");
        worn.year();
        duels(worn, 0, 0, 0, 0, 0);
        Check.refuses(x, "duel(-1)", () -> x.duel(-1), BAD);
        Check.refuses(x, "duel(5)", () -> x.duel(5), BAD);
        Check.refuses(x, "duel(lowest)", () -> x.duel(LOWEST), BAD);
        Check.refuses(x, "duel(highest)", () -> x.duel(HIGHEST), BAD);
    }

    private static void duels(PoleNave x, int... want) {
        for (int n = 0; n < want.length; n++) {
            final int turns = n;
            Check.aside(x, "duel(" + n + ")", () -> x.duel(turns), want[n]);
        }
    }

    static void promise35Odds() {
        PoleNave x = Check.naveBy("p510 p504 m35 m46 m28");
        oddsAre(x, 0, 3, 0, 1);
        x.sit(0, 0);
        x.sit(1, 1);
        int[][] lowest = {
            {1, 1}, {11, 12}, {5, 6}, {3, 4}, {2, 3}, {7, 12}, {1, 2}, {5, 12}, {1, 3}, {1, 4}, {1, 6}, {1, 12}, {0, 1},
        };
        for (int p = 0; p <= 12; p++) {
            oddsAre(x, 0, p, lowest[p][0], lowest[p][1]);
            oddsAre(x, 1, p, 0, 1);
        }
        oddsAre(x, 0, 6, 1, 2);
        Check.refuses(x, "odds(-1, 0)", () -> x.odds(-1, 0), BAD);
        Check.refuses(x, "odds(3, 0)", () -> x.odds(3, 0), BAD);
        Check.refuses(x, "odds(0, -1)", () -> x.odds(0, -1), BAD);
        Check.refuses(x, "odds(0, 13)", () -> x.odds(0, 13), BAD);
        Check.refuses(x, "odds(highest, 0)", () -> x.odds(HIGHEST, 0), BAD);
        Check.refuses(x, "odds(0, lowest)", () -> x.odds(0, LOWEST), BAD);
        x.year();
        oddsAre(x, 1, 0, 0, 1);
        oddsAre(x, 0, 1, 11, 12);
        x.year();
        oddsAre(x, 0, 1, 0, 1);
        PoleNave empty = new PoleNave();
        Check.refuses(empty, "odds(0, 0) without people", () -> empty.odds(0, 0), BAD);
    }

    private static void oddsAre(PoleNave x, int i, int p, int upper, int lower) {
        int asked = x.asked();
        long digest = x.digest();
        Check.due("odds(" + i + ", " + p + ")", x.odds(i, p), 1);
        told(x, "odds(" + i + ", " + p + ")", upper, lower, asked, digest);
    }

    private static void midIs(PoleNave x, int p, int upper, int lower) {
        int asked = x.asked();
        long digest = x.digest();
        Check.due("mid(" + p + ")", x.mid(p), 1);
        told(x, "mid(" + p + ")", upper, lower, asked, digest);
    }

    private static void told(PoleNave x, String call, int upper, int lower, int asked, long digest) {
        Check.due("upper() behind " + call, x.upper(), upper);
        Check.due("lower() behind " + call, x.lower(), lower);
        Check.due("asked() behind " + call, x.asked(), asked);
        Check.due("digest() behind " + call, x.digest(), digest);
    }

    static void promise36Mid() {
        PoleNave empty = new PoleNave();
        Check.refuses(empty, "mid(0) without poles", () -> empty.mid(0), STATE);
        Check.refuses(empty, "mid(13) without poles", () -> empty.mid(13), BAD);
        PoleNave x = Check.naveBy("p510 p504 d310 m35 m46 m28");
        midIs(x, 5, 0, 1);
        x.sit(0, 0);
        x.sit(2, 2);
        midIs(x, 0, 8, 1);
        midIs(x, 1, 22, 3);
        midIs(x, 3, 6, 1);
        midIs(x, 5, 14, 3);
        midIs(x, 12, 0, 1);
        x.sit(1, 1);
        midIs(x, 0, 8, 1);
        midIs(x, 11, 2, 3);
        Check.refuses(x, "mid(-1)", () -> x.mid(-1), BAD);
        Check.refuses(x, "mid(13)", () -> x.mid(13), BAD);
        Check.refuses(x, "mid(lowest)", () -> x.mid(LOWEST), BAD);
        Check.refuses(x, "mid(highest)", () -> x.mid(HIGHEST), BAD);
        Check.years(x, 3);
        midIs(x, 7, 5, 4);
        x.sit(1, 2);
        midIs(x, 7, 5, 2);
    }

    static void promise37Lots() {
        PoleNave empty = new PoleNave();
        Check.refuses(empty, "lots(1, 1) without poles", () -> empty.lots(1, 1), STATE);
        Check.refuses(empty, "lots(0, 1) without poles", () -> empty.lots(0, 1), BAD);
        int[] seeds = {1, 2, 3, 4711, 31337, 48271, 1000000007, 2147483646};
        String[] naves = {"p560 m38", "p510 d305 l412 r920 m35 m93 m11 m77 m20", "p500 k611 s330 m19 m25 m37"};
        for (String signs : naves) {
            for (int seed : seeds) {
                lotsAsDeeds(signs, 1, seed);
                lotsAsDeeds(signs, 20, seed);
            }
        }
        PoleNave x = Check.naveBy(naves[1]);
        int[][] bad = {{0, 1}, {21, 1}, {-1, 1}, {1, 0}, {1, -1}, {1, HIGHEST}, {1, LOWEST}, {HIGHEST, 1}, {LOWEST, 1}};
        for (int[] c : bad) {
            Check.refuses(x, "lots(" + c[0] + ", " + c[1] + ")", () -> x.lots(c[0], c[1]), BAD);
        }
        Check.stones(x, 21);
        Check.refuses(x, "lots(20, 1) behind 21 deeds", () -> x.lots(20, 1), FULL);
        Check.refuses(x, "lots(21, 1) behind 21 deeds", () -> x.lots(21, 1), BAD);
        x.lots(19, 1);
        Check.due("count(2) behind lots(19, 1)", x.count(2), 40);
        Check.refuses(x, "lots(1, 1) behind 40 deeds", () -> x.lots(1, 1), FULL);
    }

    /** Lots, and the same deeds one by one, must leave two naves alike. */
    private static void lotsAsDeeds(String signs, int n, int seed) {
        PoleNave x = Check.naveBy(signs);
        PoleNave y = Check.naveBy(signs);
        long lot = seed;
        for (int j = 0; j < n; j++) {
            lot = Math.floorMod(lot * 48271L, 2147483647L);
            int i = (int) (lot / 8 % y.count(1));
            int k = (int) (lot / 64 % y.count(0));
            if (lot % 3 == 0) {
                y.year();
            } else if ((y.count(5) & 1 << i) != 0) {
                y.down(i);
            } else if ((y.count(4) & 1 << k) == 0) {
                y.sit(i, k);
            } else {
                y.stone();
            }
        }
        Check.due("lots(" + n + ", " + seed + ") of " + signs, x.lots(n, seed), y.count(6));
        Check.due("digest() behind lots(" + n + ", " + seed + ") of " + signs, x.digest(), y.digest());
        Check.due("undo(0) of lots(" + n + ", " + seed + ")", x.undo(0), n);
    }

    private ChanceTests() {
    }
}
