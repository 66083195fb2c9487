/** The sentence above the terms: how many calls an object is used for. */
final class CallTests extends Tests {

    @Says(promise = TERMS, sentence = "An object is used for at most 512 calls after it has been made; what later calls answer is free.")
    static void fiveHundredAndTwelveCalls() {
        Nave x = Nave.by("p510 d305 m35 m46").sits(0, 0).stones(3);
        Nave y = Nave.by("p510 d305 m35 m46").sits(0, 0).stones(3);
        while (x.calls() < Nave.MOST_CALLS - 2) {
            x.tells(1, 5, "pole", 0, 5);
        }
        x.due(4, "stone").due(y.due(4, "stone").call("digest"), "digest");
        Check.due("calls", x.calls(), 512);
    }

    /** Later calls may answer what they like, but they answer. */
    @Says(promise = TERMS, sentence = "An object is used for at most 512 calls after it has been made; what later calls answer is free.")
    static void laterCallsAnswerSomething() {
        PoleNave x = new PoleNave();
        x.text(0, 7);
        int[] signs = {112, 53, 49, 48, 109, 51, 53};
        for (int i = 0; i < signs.length; i++) {
            x.put(0, i, signs[i]);
        }
        x.nave(0);
        for (int j = 0; j < 2000; j++) {
            x.lots(1 + j % 20, 1 + j);
            x.undo(j % 41);
            x.tear(j % 7);
            x.best(j % 7);
            x.digest();
        }
    }

    private CallTests() {
    }
}
