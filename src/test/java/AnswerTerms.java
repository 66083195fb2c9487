import java.util.Arrays;

/** Terms: answers, the order of what refuses, findings, chances and means, sets. */
final class AnswerTerms extends Tests {
    private static final String REFUSED = "ANSWERS. Refused is, the first of these that fits, in this order: BAD -1 (a number that is none, "
        + "or not as told), FULL -2, STATE -4 (not now), SPENT -6 (more than told), FINDING -3 (finding() tells which), unless a call says "
        + "so otherwise.";
    private static final String FINDINGS = "FINDINGS: 1 NOTHING (a ROW, a TEXT, a kept NAVE that is missing), 2 BEYOND (a place that there is "
        + "not), 3 UNLIKE (a POLE of another KIND; a number that is none), 4 NOUGHT (shared among none), 5 SIZE (fewer than none; not as many "
        + "as due).";

    @Says(promise = TERMS, sentence = REFUSED)
    static void numbersOfTheAnswers() {
        Check.due("BAD", PoleNave.BAD, -1);
        Check.due("FULL", PoleNave.FULL, -2);
        Check.due("FINDING", PoleNave.FINDING, -3);
        Check.due("STATE", PoleNave.STATE, -4);
        Check.due("SPENT", PoleNave.SPENT, -6);
        Check.due("NONE", PoleNave.NONE, -9);
    }

    /** Without POLES, STATE would fit, too. */
    @Says(promise = TERMS, sentence = REFUSED)
    static void badAheadOfState() {
        Nave x = new Nave().fill(0, 4, 5).refuses(BAD, "keep", -1).refuses(BAD, "keep", 3).refuses(BAD, "later", -1);
        x.refuses(BAD, "later", 41).refuses(BAD, "best", -1).refuses(BAD, "best", 6).refuses(BAD, "seated", -1);
        x.refuses(BAD, "seated", 6).refuses(BAD, "laces", -1, 0).refuses(BAD, "laces", 6, 0).refuses(BAD, "laces", 0, -1);
        x.refuses(BAD, "laces", 0, 6).refuses(BAD, "duel", -1).refuses(BAD, "duel", 5).refuses(BAD, "mid", -1);
        x.refuses(BAD, "mid", 13).refuses(BAD, "lots", 0, 1).refuses(BAD, "lots", 21, 1).refuses(BAD, "lots", 1, 0);
        x.refuses(BAD, "lots", 1, HIGHEST);
        Nave down = Nave.by("p500 p560 m10 m20").sits(0, 0).years(1).sits(1, 1);
        down.refuses(BAD, "sit", 2, 0).refuses(BAD, "sit", 1, 2).refuses(BAD, "down", 2).refuses(BAD, "lace", 2);
        down.write(1, "x").refuses(BAD, "nave", 4).refuses(STATE, "nave", 1);
    }

    /** Behind 40 DEEDS, FULL would fit, too. */
    @Says(promise = TERMS, sentence = REFUSED)
    static void badAheadOfFull() {
        Nave x = Nave.by("p560 m10 m20").sits(0, 0).deeds(40).refuses(BAD, "sit", 2, 0).refuses(BAD, "sit", 1, 1);
        x.refuses(BAD, "down", 2).refuses(BAD, "lace", 1).refuses(BAD, "lots", 0, 1).refuses(BAD, "lots", 21, 1);
        x.refuses(BAD, "lots", 1, 0).refuses(FULL, "sit", 1, 0).refuses(FULL, "down", 0).refuses(FULL, "lace", 0);
        x.refuses(FULL, "lots", 1, 1).refuses(FULL, "stone").refuses(FULL, "year");
    }

    /** Where a FINDING would fit, too. */
    @Says(promise = TERMS, sentence = REFUSED)
    static void badAheadOfFindings() {
        Nave x = Nave.by("p560 m10").fill(0, 9, 9).refuses(BAD, "row", 6, -1).refuses(BAD, "row", -1, -1).refuses(BAD, "text", 4, -1);
        x.refuses(BAD, "lay", 6, -1, 0).refuses(BAD, "at", -1, -1).refuses(BAD, "put", 4, -1, 0).refuses(BAD, "copy", 6, 0, 1, 0, -1);
        x.refuses(BAD, "copy", 1, 0, 6, 0, -1).refuses(BAD, "mark", 1, 1).refuses(BAD, "mark", 0, 0).refuses(BAD, "mark", 0, 6);
        x.refuses(BAD, "strengths", 1, 1).refuses(BAD, "strengths", 1, 0).refuses(BAD, "kinds", 1, 1).refuses(BAD, "kinds", 1, 0);
        x.refuses(BAD, "test", 1, 1).refuses(BAD, "test", 1, 0).refuses(BAD, "on", 3).refuses(BAD, "on", -1);
    }

    @Says(promise = TERMS, sentence = REFUSED)
    static void stateAheadOfFindings() {
        Nave x = new Nave().refuses(STATE, "seated", 0).fill(0, 9, 9).refuses(STATE, "seated", 0).due(0, "row", 0, 0);
        x.refuses(STATE, "seated", 0).due(0, "finding").write(0, "p560m10").due(1, "nave", 0).finds(SIZE, "seated", 0);
    }

    /** Each call that asks for a POLE or one of PEOPLE, for what is kept, or for a NAVE, while there is none. */
    @Says(promise = TERMS, sentence = REFUSED)
    static void refusedWithoutANave() {
        Nave x = new Nave().fill(0, 0, 0, 1).refuses(BAD, "pole", 0, 0).refuses(BAD, "one", 0, 0).refuses(BAD, "mark", 0, 1);
        x.refuses(BAD, "bears", 0, 0).refuses(BAD, "sit", 0, 0).refuses(BAD, "down", 0).refuses(BAD, "lace", 0);
        x.refuses(BAD, "gives", 0).refuses(BAD, "strengths", 0, 0).refuses(BAD, "kinds", 0, 0).refuses(BAD, "test", 0, 0);
        x.refuses(BAD, "odds", 0, 0).refuses(STATE, "stone").refuses(STATE, "year").refuses(STATE, "keep", 0);
        x.refuses(STATE, "holds").refuses(STATE, "later", 0).refuses(STATE, "best", 0).refuses(STATE, "fewest");
        x.refuses(STATE, "seated", 0).refuses(STATE, "laces", 0, 0).refuses(STATE, "duel", 0).refuses(STATE, "mid", 0);
        x.refuses(STATE, "lots", 1, 1).refuses(BAD, "undo", 1).aside(0, "undo", 0).finds(NOTHING, "on", 0);
    }

    @Says(promise = TERMS, sentence = "NONE -9 (a ROW that something was to come to stays as it is then).")
    static void rowStaysWhereNothingComes() {
        Nave x = Nave.by("p504 m35").sits(0, 0).fill(0, 8, 9).due(0, "row", 1, 0).due(40, "row", 2, 40).fill(3, NONE);
        for (int n = 1; n <= 5; n++) {
            for (int r = 0; r <= 4; r++) {
                x.refuses(NONE, "laces", n, r);
            }
        }
        x.rowIs(0, 8, 9).rowIs(1).rowIs(2, new int[40]).rowIs(3, NONE).rowIsMissing(4);
    }

    @Says(promise = TERMS, sentence = "NONE -9 (a ROW that something was to come to stays as it is then).")
    static void noneOfEachCall() {
        Nave x = Nave.by("p504 m35").fill(2, 0, 0, 0).aside(NONE, "fault", 0).refuses(NONE, "gives", 0).refuses(NONE, "fewest");
        x.refuses(NONE, "strengths", 0, 2).refuses(NONE, "test", 0, 2).sits(0, 0).refuses(NONE, "laces", 1, 3);
        x.due(1, "year").refuses(NONE, "gives", 0).tells(1, NONE, "one", 0, 2).due(0, "best", 3).rowIs(3, NONE);
    }

    private static final String[] REFUSALS = {
        "BAD row 6 1", "BAD row 0 41", "BAD lay 6 0 1", "BAD at -1 0", "BAD tear 6", "BAD copy 0 0 6 0 1", "BAD copy 6 0 0 0 1",
        "BAD mean 6", "BAD text 4 1", "BAD text 0 61", "BAD put 4 0 1", "BAD fault 4", "BAD nave 4", "STATE nave 1", "BAD pole 4 0",
        "BAD pole 0 8", "BAD one 4 0", "BAD one 0 4", "BAD mark 0 0", "BAD mark 4 1", "BAD bears 0 21", "BAD bears 4 0",
        "BAD sit 4 0", "BAD sit 3 4", "STATE sit 0 1", "STATE sit 3 2", "BAD down 4", "STATE down 3", "BAD lace 4", "STATE lace 2",
        "BAD undo 6", "BAD undo -1", "BAD keep 3", "BAD on 3", "BAD gives 4", "NONE gives 2", "BAD later 41", "BAD best 6",
        "NONE fewest", "BAD seated 6", "BAD laces 6 0", "BAD laces 0 6", "BAD strengths 4 0", "BAD strengths 0 6", "BAD kinds 4 0",
        "BAD kinds 0 6", "BAD test 4 0", "BAD test 0 6", "BAD duel 5", "BAD odds 4 0", "BAD odds 0 13", "BAD mid 13", "BAD lots 0 1",
        "BAD lots 1 0", "BAD count 12", "BAD findings 6",
    };
    private static final String[] FOUND = {
        "NOTHING lay 3 0 1", "NOTHING at 3 0", "NOTHING tear 3", "NOTHING copy 0 0 3 0 1", "NOTHING copy 3 0 0 0 1", "NOTHING mean 3",
        "NOTHING put 2 0 1", "NOTHING fault 2", "NOTHING nave 2", "NOTHING on 1", "NOTHING seated 3", "NOTHING strengths 0 3",
        "NOTHING kinds 0 3", "NOTHING test 0 3", "BEYOND lay 0 3 1", "BEYOND at 0 -1", "BEYOND copy 0 0 1 0 3", "BEYOND put 0 35 1",
        "UNLIKE mark 0 1", "UNLIKE mark 1 5", "UNLIKE seated 4", "UNLIKE strengths 0 0", "UNLIKE kinds 0 0", "UNLIKE test 0 0",
        "NOUGHT mean 5", "SIZE row 0 -1", "SIZE copy 0 0 1 0 -1", "SIZE text 0 -1", "SIZE seated 0", "SIZE strengths 0 1",
        "SIZE kinds 0 1", "SIZE test 0 1",
    };
    private static final String[] REFUSED_WHEN_FULL = {
        "FULL sit 3 1", "FULL down 0", "FULL lace 0", "FULL stone", "FULL year", "FULL lots 1 1",
    };
    private static final String[] ANSWERS = {"BAD", "FULL", "FINDING", "STATE", "", "", "", "", "NONE"};
    private static final String[] FINDINGS_BY_NAME = {"", "NOTHING", "BEYOND", "UNLIKE", "NOUGHT", "SIZE"};

    /** A nave in which much has been done: about 60 calls. */
    private static Nave busy() {
        Nave x = Nave.by("p510 r605 l400 d301 m35 m46 m28 m19").due(2, "text", 1, 2).due(0, "row", 5, 0);
        x.fill(0, 7, -8, 9).fill(1, 4, 5).fill(4, 2, 0, 0, 0).sits(0, 0).sits(1, 2).due(2, "keep", 0).due(4, "year").stones(1);
        return x.due(4, "keep", 2).sits(2, 1).tells(1, 7, "at", 0, 0).due(1, "odds", 0, 3).due(FINDING, "tear", 3);
    }

    private static void refused(Nave x, String refusal) {
        String[] words = refusal.split(" ");
        int[] numbers = Nave.numbers(words, 2);
        int answer = -1 - Arrays.asList(ANSWERS).indexOf(words[0]);
        if (answer < 0) {
            x.refuses(answer, words[1], numbers);
        } else {
            x.finds(Arrays.asList(FINDINGS_BY_NAME).indexOf(words[0]), words[1], numbers);
        }
    }

    private static void allRefused(int deeds, String... refusals) {
        int most = 28;
        for (int first = 0; first < refusals.length; first += most) {
            Nave x = busy().deeds(deeds);
            for (int j = first; j < refusals.length && j < first + most; j++) {
                refused(x, refusals[j]);
            }
            goesOnAlike(x, busy().deeds(deeds));
        }
    }

    /** What can't be told at once (the deeds, what is kept) shows itself when they are undone, gone on from. */
    private static void goesOnAlike(Nave x, Nave like) {
        for (int n = 5; n >= 0; n--) {
            x.due(like.call("undo", n), "undo", n).due(like.call("digest"), "digest");
        }
        for (int k : new int[] {2, 0}) {
            x.due(like.call("on", k), "on", k).due(like.call("digest"), "digest");
            x.due(like.call("undo", 1), "undo", 1).due(like.call("digest"), "digest");
        }
    }

    @Says(promise = TERMS, sentence = "What is refused changes nothing but finding(), findings().")
    static void refusedChangesNothing() {
        allRefused(5, REFUSALS);
        allRefused(MOST_DEEDS, REFUSED_WHEN_FULL);
    }

    @Says(promise = TERMS, sentence = "What is refused changes nothing but finding(), findings().")
    static void foundChangesNothingElse() {
        allRefused(5, FOUND);
        allRefused(MOST_DEEDS, FOUND);
    }

    @Says(promise = TERMS, sentence = FINDINGS)
    static void findingsOfEachCall() {
        for (String found : FOUND) {
            Nave x = busy().due(NOTHING, "finding").due(1, "findings", NOTHING);
            refused(x, found);
        }
    }

    @Says(promise = TERMS, sentence = "Chances, means are told by upper(), lower(), in lowest terms, the lower number above 0 (0 by 1).")
    static void chancesInLowestTerms() {
        String[] people = {"m10", "m11", "m12", "m13", "m14", "m15", "m16", "m17", "m18", "m19", "m19m19", "m19m19m19",
            "m19m19m19m19", "m19m19m19m19m19", "m19m18m17m16m15"};
        int[] high = {0, 1, 2, 3, 4, 5, 6, 7, 8, 9, 18, 27, 36, 45, 35};
        for (int j = 0; j < people.length; j++) {
            Nave x = Nave.by("d960" + people[j]);
            for (int i = 0; i < people[j].length() / 3; i++) {
                x.tellsParts(0, 1, "odds", i, 0);
            }
            x.tellsParts(0, 1, "mid", 5);
            for (int i = 0; i < people[j].length() / 3; i++) {
                x.sits(i, 0);
            }
            for (int p = 0; p <= 12; p++) {
                int upper = high[j] * (12 - p);
                x.tellsParts(upper / divisor(upper, 12), 12 / divisor(upper, 12), "mid", p);
                x.tellsParts((12 - p) / divisor(12 - p, 12), 12 / divisor(12 - p, 12), "odds", 0, p);
            }
        }
    }

    private static int divisor(int a, int b) {
        return b == 0 ? a : divisor(b, a % b);
    }

    @Says(promise = TERMS, sentence = "Sets (of POLES, PEOPLE, KINDS) are told by bits.")
    static void setsOfPeople() {
        for (int set = 0; set < 32; set++) {
            Nave x = Nave.by("p500 p560 m11 m12 m13 m14 m15");
            for (int i = 0; i < 5; i++) {
                x.sits(i, set >> i & 1);
            }
            x.tells(1, set, "pole", 1, 6).tells(1, 31 - set, "pole", 0, 6).due(31, "count", 5);
            x.due(set == 31 ? 0 : 1, "year").due(set, "count", 5).tells(1, set, "pole", 1, 6).tells(1, 0, "pole", 0, 6);
        }
    }

    @Says(promise = TERMS, sentence = "Sets (of POLES, PEOPLE, KINDS) are told by bits.")
    static void setsOfPoles() {
        for (int set = 0; set < 16; set++) {
            StringBuilder signs = new StringBuilder();
            for (int k = 0; k < 4; k++) {
                signs.append((set >> k & 1) == 1 ? "l560" : "l502").append("m30");
            }
            Nave x = Nave.by(signs.toString());
            for (int k = 0; k < 4; k++) {
                x.sits(k, k);
            }
            x.tells(set, 4 - Integer.bitCount(set), "holds").tells(0, 15 - set, "later", 1).due(15 - set, "year");
            x.due(15 - set, "count", 4).tells(set, 0, "holds").tells(0, 15 - set, "later", 0).due(set, "count", 5);
        }
    }

    /** Each one is of so much weight that it fills a POLE, so that as many POLES are wanted as there are PEOPLE. */
    @Says(promise = TERMS, sentence = "Sets (of POLES, PEOPLE, KINDS) are told by bits.")
    static void setsOfFewest() {
        for (int set = 1; set < 16; set++) {
            StringBuilder signs = new StringBuilder();
            for (int k = 0; k < 4; k++) {
                signs.append((set >> k & 1) == 1 ? "p509" : "p508");
            }
            Nave.by(signs.append("m90".repeat(Integer.bitCount(set))).toString()).tells(Integer.bitCount(set), set, "fewest");
        }
    }

    @Says(promise = TERMS, sentence = "Sets (of POLES, PEOPLE, KINDS) are told by bits.")
    static void setsOfKinds() {
        Nave x = Nave.by("p720 p520 m10").fill(1, 4, 12, 1, 4, 13, 0).aside(1, "kinds", 0, 1).aside(33, "kinds", 1, 1);
        x.fill(1, 4, 8, 1, 4, 9, 0).aside(34, "kinds", 0, 1).aside(2, "kinds", 1, 1);
        x.fill(1, 4, 16, 1, 4, 17, 0).aside(4, "kinds", 0, 1).fill(1, 4, 11, 1, 4, 12, 0).aside(8, "kinds", 0, 1);
        x.fill(1, 4, 30, 1).aside(16, "kinds", 0, 1).fill(1, 4, 26, 1).aside(16, "kinds", 1, 1);
        x.fill(1, 4, 31, 1).aside(0, "kinds", 0, 1).due(0, "row", 1, 0).aside(63, "kinds", 0, 1);
    }

    private AnswerTerms() {
    }
}
