/** Promises 24 to 30: what holds, seatings, lacings, all of them aside. */
final class AsideTests {
    private static final int BAD = PoleNave.BAD, STATE = PoleNave.STATE, NONE = PoleNave.NONE;
    private static final int LOWEST = Check.LOWEST, HIGHEST = Check.HIGHEST;

    static void promise24Holds() {
        PoleNave empty = new PoleNave();
        Check.refuses(empty, "holds() without poles", empty::holds, STATE);
        PoleNave x = Check.naveBy("p510 d305 l400 p906 m35 m93 m11 m77");
        Check.tells(x, "holds() of nobody up", x::holds, 15, 0);
        x.sit(0, 0);
        x.sit(2, 3);
        Check.tells(x, "holds()", x::holds, 15, 0);
        x.sit(1, 0);
        Check.tells(x, "holds() of one laden by 5 too much", x::holds, 14, 5);
        x.sit(3, 2);
        Check.tells(x, "holds() of two laden by 14 too much", x::holds, 10, 14);
        long digest = x.digest();
        x.holds();
        Check.due("digest() behind holds()", x.digest(), digest);
        x.year();
        Check.tells(x, "holds() of those that are up", x::holds, 10, 0);
        PoleNave weak = Check.naveBy("p560 p502 p560 p501 m30 m40");
        weak.sit(0, 1);
        weak.sit(1, 3);
        Check.tells(weak, "holds() of every other one", weak::holds, 5, 4);
        PoleNave edge = Check.naveBy("p505 m35");
        edge.sit(0, 0);
        Check.tells(edge, "holds() of one that bears just so much", edge::holds, 1, 0);
        edge.year();
        Check.tells(edge, "holds() of one that has worn", edge::holds, 0, 4);
        edge.year();
        Check.tells(edge, "holds() of one that is down", edge::holds, 0, 0);
    }

    static void promise25Gives() {
        PoleNave x = Check.naveBy("p510 d905 l400 l460 m35 m30 m11 m90");
        x.sit(0, 0);
        x.sit(3, 2);
        x.sit(1, 3);
        x.sit(2, 1);
        Check.aside(x, "gives(0)", () -> x.gives(0), 3);
        Check.aside(x, "gives(1)", () -> x.gives(1), NONE);
        Check.aside(x, "gives(2) at once", () -> x.gives(2), 1);
        Check.aside(x, "gives(3)", () -> x.gives(3), NONE);
        x.year();
        Check.aside(x, "gives(0) behind a year", () -> x.gives(0), 2);
        Check.aside(x, "gives(2) that is down", () -> x.gives(2), NONE);
        Check.refuses(x, "gives(-1)", () -> x.gives(-1), BAD);
        Check.refuses(x, "gives(4)", () -> x.gives(4), BAD);
        Check.refuses(x, "gives(lowest)", () -> x.gives(LOWEST), BAD);
        PoleNave empty = new PoleNave();
        Check.refuses(empty, "gives(0) without poles", () -> empty.gives(0), BAD);
        PoleNave edge = Check.naveBy("p505 m35");
        edge.sit(0, 0);
        Check.aside(edge, "gives(0) of one that bears just so much", () -> edge.gives(0), 2);
        PoleNave y = Check.naveBy("l123 l140 m40");
        y.sit(0, 0);
        Check.aside(y, "gives(0) of a laced one", () -> y.gives(0), 11);
        y.down(0);
        Check.aside(y, "gives(0) that nobody is on", () -> y.gives(0), NONE);
    }

    static void promise26Later() {
        PoleNave empty = new PoleNave();
        Check.refuses(empty, "later(0) without poles", () -> empty.later(0), STATE);
        Check.refuses(empty, "later(-1) without poles", () -> empty.later(-1), BAD);
        PoleNave x = Check.naveBy("p510 d905 l400 l460 m35 m37 m11 m96");
        x.sit(0, 0);
        x.sit(3, 2);
        x.sit(1, 3);
        x.sit(2, 1);
        long digest = x.digest();
        Check.tells(x, "later(0)", () -> x.later(0), 14, 0);
        Check.tells(x, "later(1)", () -> x.later(1), 10, 4);
        Check.tells(x, "later(2)", () -> x.later(2), 10, 4);
        Check.tells(x, "later(3)", () -> x.later(3), 5, 5);
        Check.tells(x, "later(40)", () -> x.later(40), 5, 5);
        Check.due("digest() behind later()", x.digest(), digest);
        Check.refuses(x, "later(-1)", () -> x.later(-1), BAD);
        Check.refuses(x, "later(41)", () -> x.later(41), BAD);
        Check.refuses(x, "later(lowest)", () -> x.later(LOWEST), BAD);
        x.year();
        Check.tells(x, "later(0) of one that is down", () -> x.later(0), 10, 4);
        Check.tells(x, "later(2) behind a year", () -> x.later(2), 5, 5);
        PoleNave worn = Check.naveBy("p510 p505 p505 p505 m35 m35");
        worn.sit(0, 1);
        worn.sit(1, 3);
        worn.year();
        Check.tells(worn, "later(0) with wear", () -> worn.later(0), 10, 0);
        Check.tells(worn, "later(1) with wear", () -> worn.later(1), 0, 10);
    }

    static void promise27Best() {
        PoleNave x = Check.naveBy("p512p310 m35 m46 m28");
        Check.refuses(x, "best(-1)", () -> x.best(-1), BAD);
        Check.refuses(x, "best(6)", () -> x.best(6), BAD);
        int asked = x.asked();
        Check.due("best(4)", x.best(4), 13);
        Check.due("asked() behind best(4)", x.asked(), asked);
        Check.holds(x, 4, 0, 0, 1);
        Check.fill(x, 0, 7, 7, 7, 7, 7, 7);
        x.sit(0, 1);
        x.sit(1, 1);
        x.sit(2, 1);
        Check.due("best(0), whoever is up", x.best(0), 13);
        Check.holds(x, 0, 0, 0, 1);
        Check.due("count(6) behind best(0)", x.count(6), 9);
        x.year();
        Check.due("best(0) with one down", x.best(0), 10);
        Check.holds(x, 0, NONE, 0, 0);
        Check.years(x, 2);
        Check.due("best(0) with wear", x.best(0), 5);
        Check.holds(x, 0, NONE, NONE, 0);
        PoleNave flat = Check.naveBy("p100 d160 m30 m31");
        Check.due("best(1), the ground least", flat.best(1), 1);
        Check.holds(flat, 1, NONE, 1);
        PoleNave tall = Check.naveBy("p110 p911 p110 m19 m28");
        Check.due("best(1) on the second", tall.best(1), 17);
        Check.holds(tall, 1, 1, 1);
        PoleNave three = Check.naveBy("p110 p930 p110 m19 m19 m19");
        Check.due("best(1) of three on the second", three.best(1), 27);
        Check.holds(three, 1, 1, 1, 1);
        PoleNave fallen = Check.naveBy("p501 p500 m22 m11");
        fallen.sit(0, 0);
        fallen.year();
        Check.due("best(1) with one down, one that bears nothing", fallen.best(1), 0);
        Check.holds(fallen, 1, NONE, NONE);
        PoleNave none = Check.naveBy("p300 m19 m29");
        Check.due("best(1) of nothing that bears", none.best(1), 0);
        Check.holds(none, 1, NONE, NONE);
        PoleNave empty = new PoleNave();
        Check.refuses(empty, "best(0) without poles", () -> empty.best(0), STATE);
        Check.refuses(empty, "best(6) without poles", () -> empty.best(6), BAD);
    }

    static void promise28Fewest() {
        PoleNave empty = new PoleNave();
        Check.refuses(empty, "fewest() without poles", empty::fewest, STATE);
        PoleNave x = Check.naveBy("p510p310 m35 m46 m28");
        long digest = x.digest();
        Check.tells(x, "fewest()", x::fewest, 2, 3);
        Check.due("digest() behind fewest()", x.digest(), digest);
        PoleNave like = Check.naveBy("p310p310p310 m10");
        Check.tells(like, "fewest() of like ones", like::fewest, 1, 1);
        PoleNave strong = Check.naveBy("p905p904p904p908 m40m80");
        Check.tells(strong, "fewest(), the least number", strong::fewest, 2, 9);
        PoleNave all = Check.naveBy("p903p903p903p903 m30m30m30m30");
        Check.tells(all, "fewest() by all", all::fewest, 4, 15);
        PoleNave last = Check.naveBy("p900p900p920 m30m30m30m30m30");
        Check.tells(last, "fewest() by the last one", last::fewest, 1, 4);
        PoleNave late = Check.naveBy("p902p920 m10m20m30");
        Check.tells(late, "fewest(), met late", late::fewest, 1, 2);
        PoleNave pairs = Check.naveBy("p903p905p904p906 m30m40m20");
        Check.tells(pairs, "fewest(), the least number met late", pairs::fewest, 2, 6);
        PoleNave none = Check.naveBy("p500 p102 m10 m40");
        none.sit(0, 1);
        Check.refuses(none, "fewest() of one who can't sit", none::fewest, NONE);
        PoleNave fallen = Check.naveBy("p302p310 m10m20m10");
        for (int i = 0; i < 3; i++) {
            fallen.sit(i, 0);
        }
        fallen.year();
        Check.tells(fallen, "fewest() with one down", fallen::fewest, 1, 2);
        Check.years(fallen, 4);
        Check.refuses(fallen, "fewest() with wear", fallen::fewest, NONE);
    }

    static void promise29Seated() {
        PoleNave x = Check.naveBy("p510p310p101 m35 m46 m28");
        Check.fill(x, 0, 0, 0, 1);
        long digest = x.digest();
        Check.tells(x, "seated(0)", () -> x.seated(0), 1, 13);
        Check.due("digest() behind seated(0)", x.digest(), digest);
        Check.fill(x, 0, 0, NONE, 0);
        Check.tells(x, "seated(0) with one on the ground", () -> x.seated(0), 0, 10);
        Check.fill(x, 0, NONE, NONE, NONE);
        Check.tells(x, "seated(0) with all on the ground", () -> x.seated(0), 0, 0);
        Check.fill(x, 0, 1, 2, 2);
        Check.tells(x, "seated(0) on one too weak", () -> x.seated(0), 1, 5);
        x.sit(0, 2);
        Check.fill(x, 0, 0, 1, 1);
        Check.tells(x, "seated(0), whoever is up", () -> x.seated(0), 0, 11);
        PoleNave worn = Check.naveBy("p505 p505 m10 m20");
        Check.fill(worn, 0, 0, 1);
        Check.tells(worn, "seated(0) at first", () -> worn.seated(0), 0, 0);
        Check.years(worn, 2);
        Check.tells(worn, "seated(0) with wear", () -> worn.seated(0), 1, 0);
        seatedRefusals(x);
        PoleNave empty = new PoleNave();
        Check.refuses(empty, "seated(0) without poles", () -> empty.seated(0), STATE);
        Check.refuses(empty, "seated(6) without poles", () -> empty.seated(6), BAD);
    }

    private static void seatedRefusals(PoleNave x) {
        Check.refuses(x, "seated(-1)", () -> x.seated(-1), BAD);
        Check.refuses(x, "seated(6)", () -> x.seated(6), BAD);
        Check.finds(x, "seated(3)", () -> x.seated(3), Check.NOTHING);
        int[][] sizes = {{}, {0, 0}, {0, 0, 0, 0}, {9, 9}};
        for (int[] places : sizes) {
            Check.fill(x, 1, places);
            Check.finds(x, "seated(1) of " + places.length, () -> x.seated(1), Check.SIZE);
        }
        int[][] unlike = {{3, 0, 0}, {0, -1, 0}, {0, 0, HIGHEST}, {LOWEST, 0, 0}, {0, -8, 0}, {-10, 0, 0}};
        for (int[] places : unlike) {
            Check.fill(x, 1, places);
            Check.finds(x, "seated(1) with no pole", () -> x.seated(1), Check.UNLIKE);
        }
        x.year();
        Check.fill(x, 1, 0, 0, 2);
        Check.finds(x, "seated(1) on one that is down", () -> x.seated(1), Check.UNLIKE);
        Check.fill(x, 1, 0, 1, NONE);
        Check.tells(x, "seated(1) with one down", () -> x.seated(1), 0, 8);
    }

    static void promise30Laces() {
        PoleNave x = Check.naveBy("p510 m35");
        x.sit(0, 0);
        lacesOf(x, 0, 0);
        lacesOf(x, 2, 0, NONE, NONE);
        lacesOf(x, 3, 1, NONE, NONE, 0);
        lacesOf(x, 4, 1, NONE, NONE, 0, NONE);
        lacesOf(x, 5, 2, NONE, NONE, 0, NONE, 0);
        PoleNave edge = Check.naveBy("p505 m35");
        edge.sit(0, 0);
        lacesOf(edge, 1, 0, NONE);
        lacesOf(edge, 2, 1, NONE, 0);
        PoleNave light = Check.naveBy("p503 m10");
        light.sit(0, 0);
        lacesOf(light, 2, 1, NONE, 0);
        PoleNave second = Check.naveBy("p510 p505 p510 m35");
        second.sit(0, 1);
        second.year();
        lacesOf(second, 2, 2, 1, 1);
        PoleNave two = Check.naveBy("p510p510 m35m35");
        two.sit(0, 0);
        two.sit(1, 1);
        lacesOf(two, 3, 2, NONE, 0, 1);
        lacesOf(two, 5, 4, NONE, 0, 1, 0, 1);
        PoleNave none = Check.naveBy("p504p510 m35m91");
        none.sit(0, 0);
        Check.fill(none, 2, 8, 8);
        Check.refuses(none, "laces(1, 2) that can't be", () -> none.laces(1, 2), NONE);
        Check.refuses(none, "laces(5, 3) that can't be", () -> none.laces(5, 3), NONE);
        lacesOf(none, 0, 0);
        none.year();
        none.sit(1, 1);
        lacesOf(none, 5, 5, 1, 1, 1, 1, 1);
        PoleNave fallen = Check.naveBy("p500 m10");
        fallen.sit(0, 0);
        fallen.year();
        lacesOf(fallen, 3, 0, NONE, NONE, NONE);
        Check.refuses(x, "laces(-1, 0)", () -> x.laces(-1, 0), BAD);
        Check.refuses(x, "laces(6, 0)", () -> x.laces(6, 0), BAD);
        Check.refuses(x, "laces(0, -1)", () -> x.laces(0, -1), BAD);
        Check.refuses(x, "laces(0, 6)", () -> x.laces(0, 6), BAD);
        Check.refuses(x, "laces(highest, 0)", () -> x.laces(HIGHEST, 0), BAD);
        PoleNave empty = new PoleNave();
        Check.refuses(empty, "laces(0, 0) without poles", () -> empty.laces(0, 0), STATE);
        Check.refuses(empty, "laces(6, 0) without poles", () -> empty.laces(6, 0), BAD);
    }

    private static void lacesOf(PoleNave x, int n, int want, int... places) {
        Check.fill(x, 5, 3, 3, 3, 3, 3, 3);
        int asked = x.asked();
        int deeds = x.count(2);
        Check.due("laces(" + n + ", 5)", x.laces(n, 5), want);
        Check.due("asked() behind laces(" + n + ", 5)", x.asked(), asked);
        Check.due("count(2) behind laces(" + n + ", 5)", x.count(2), deeds);
        Check.holds(x, 5, places);
        x.tear(5);
        Check.due("laces(" + n + ", 5) to a ROW that was missing", x.laces(n, 5), want);
        Check.holds(x, 5, places);
    }

    private AsideTests() {
    }
}
