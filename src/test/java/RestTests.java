/** Each call, where it is not refused, in a nave in which all is full of what it might touch: the rest stays as it is. */
final class RestTests {
    private static final String SIGNS = "p520 r620 l520 d320 m35 m46 m28 m19 m55";
    private static final int DEEDS_DONE = 8;

    /** Each with what it may change: nothing, a ROW, a TEXT, the DEEDS; behind these, whether asked() tells what it told. */
    private static final String[] CALLS = {
        "nothing.asked at 3 0", "nothing.asked mean 3", "nothing fault 0", "nothing fault 1", "nothing.asked pole 3 5",
        "nothing.asked one 4 1", "nothing mark 1 1", "nothing bears 0 20", "nothing undo 8", "nothing keep 2", "nothing on 2",
        "nothing.asked holds", "nothing gives 0", "nothing.asked later 40", "nothing.asked fewest", "nothing.asked seated 0",
        "nothing.asked strengths 0 1", "nothing kinds 0 1", "nothing.asked test 0 1", "nothing duel 4", "nothing.parts odds 0 3",
        "nothing.parts mid 5", "nothing asked", "nothing upper", "nothing lower", "nothing count 6", "nothing finding",
        "nothing findings 2", "nothing digest", "row row 3 40", "row row 3 0", "row.asked lay 3 1 77", "row tear 3", "row copy 2 0 3 0 3",
        "row copy 3 0 3 1 2", "row best 3", "row laces 1 3", "text text 3 60", "text text 3 0", "text put 3 1 90", "deeds sit 3 3",
        "deeds down 0", "deeds lace 3", "deeds stone", "deeds year", "deeds lots 20 99",
    };

    private static Nave full() {
        Nave x = Nave.by(SIGNS + " ".repeat(60 - SIGNS.length())).due(60, "text", 1, 60).due(1032, "put", 1, 59, -7);
        x.write(2, "p560 m35").write(3, "m35").fill(0, 0, 0, 1, 1, 3).fill(1, 0, 5, 1).fill(3, 4, 5, 6).due(0, "row", 4, 0);
        for (int r : new int[] {2, 5}) {
            x.due(40, "row", r, 40).due(1, "lay", r, 39, 9 - r).due(1, "lay", r, 0, -r);
        }
        x.sits(0, 0).sits(1, 1).years(2).stones(1).due(5, "keep", 0).sits(2, 3).due(6, "keep", 1).stones(1).sits(4, 0);
        return x.due(8, "keep", 2).due(1, "at", 3, 1).due(1, "odds", 0, 3).due(Tests.FINDING, "at", 4, 0);
    }

    static void allCallsLeaveTheRest() {
        for (String line : CALLS) {
            String[] words = line.split(" ");
            Nave x = full();
            Nave like = full();
            long[] told = told(x);
            long digest = x.call("digest");
            boolean mayBeBelowNought = words[1].equals("fault") || words[1].equals("digest");
            if (x.call(words[1], Nave.numbers(words, 2)) < 0 && !mayBeBelowNought) {
                Check.fail(line + " is refused");
            }
            if (words[0].startsWith("nothing")) {
                x.due(digest, "digest");
            }
            long[] behind = told(x);
            for (int j = 0; j < told.length; j++) {
                boolean free = j == 0 && words[0].endsWith(".asked") || j > 0 && j < 3 && words[0].endsWith(".parts");
                Check.due("told " + j + " behind " + line, behind[j], free ? behind[j] : told[j]);
            }
            replayed(line, x);
            takeAway(x, words[0]);
            takeAway(like, words[0]);
            goesOnAlike(line, x, like);
        }
    }

    private static long[] told(Nave x) {
        return new long[] {x.call("asked"), x.call("upper"), x.call("lower"), x.call("finding"), x.call("findings", 1),
            x.call("findings", 2), x.call("findings", 3), x.call("findings", 4), x.call("findings", 5)};
    }

    /** The nave is what its deeds make of it: none of them is undone, and it is as it was. */
    private static void replayed(String line, Nave x) {
        long digest = x.call("digest");
        x.due(0, "undo", (int) x.call("count", 2));
        Check.due("digest() behind " + line + ", none undone", x.call("digest"), digest);
    }

    /** What the call may have changed is made alike again. */
    private static void takeAway(Nave x, String change) {
        if (change.startsWith("row")) {
            x.call("row", 3, 0);
        } else if (change.startsWith("text")) {
            x.call("text", 3, 0);
        } else if (change.startsWith("deeds")) {
            x.call("undo", DEEDS_DONE);
        }
    }

    private static void goesOnAlike(String line, Nave x, Nave like) {
        Check.due("digest() behind " + line, x.call("digest"), like.call("digest"));
        int[] up = {3, 7, 23};
        for (int k = 2; k >= 0; k--) {
            x.due(like.call("on", k), "on", k);
            Check.due("count(5) behind on(" + k + ") behind " + line, x.call("count", 5), up[k]);
            for (int n = (int) like.call("count", 2); n >= 0; n--) {
                x.due(like.call("undo", n), "undo", n);
                Check.due("digest() behind undo(" + n + ") behind on(" + k + ") behind " + line, x.call("digest"), like.call("digest"));
            }
        }
    }

    /** A nave anew forgets deeds and what was kept, and leaves rows and texts, and what was told. */
    static void allRowsAndTextsOutlastANave() {
        Nave x = full();
        long[] told = told(x);
        x.due(1, "nave", 2);
        long[] behind = told(x);
        for (int j = 0; j < told.length; j++) {
            Check.due("told " + j + " behind nave(2)", behind[j], told[j]);
        }
        Nave like = Nave.by("p560 m35").write(0, SIGNS + " ".repeat(60 - SIGNS.length())).due(60, "text", 1, 60);
        like.due(1032, "put", 1, 59, -7).write(2, "p560 m35").write(3, "m35").fill(0, 0, 0, 1, 1, 3).fill(1, 0, 5, 1);
        like.fill(3, 4, 5, 6).due(0, "row", 4, 0);
        for (int r : new int[] {2, 5}) {
            like.due(40, "row", r, 40).due(1, "lay", r, 39, 9 - r).due(1, "lay", r, 0, -r);
        }
        x.due(like.call("digest"), "digest");
    }

    private RestTests() {
    }
}
