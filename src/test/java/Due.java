/** Counts the answers that are not as due, and says by which sentence of the document each was due. */
final class Due {
    static final int NONE = -1, FULL = -2, STATE = -3, NEVER = -4;

    private int promise = 0;
    private String sentence = "";
    private int sentences = 0;
    private int wrong = 0;

    /** The sentence that the next answers are due by. */
    void by(int ofPromise, String words) {
        promise = ofPromise;
        sentence = words;
        sentences++;
    }

    void is(String what, int got, int want) {
        if (got != want) {
            wrong++;
            System.out.println("promise " + promise + ", \"" + sentence + "\": " + what + " answered " + got
                + ", due is " + want);
        }
    }

    /** Two objects answer the same to all that can be asked of what there is. */
    void same(String what, StormBench got, StormBench want) {
        is(what + ": price()", got.price(), want.price());
        for (int i = 0; i <= 11; i++) is(what + ": count(" + i + ")", got.count(i), want.count(i));
        for (int s = 0; s < want.count(0); s++) sameService(what + ": of service " + s + ", ", s, got, want);
        for (int i = 0; i < want.count(2); i++) {
            for (int k = 0; k <= 6; k++) is(what + ": job(" + i + ", " + k + ")", got.job(i, k), want.job(i, k));
        }
        for (int i = 0; i < want.count(3); i++) {
            for (int k = 0; k <= 3; k++) is(what + ": guest(" + i + ", " + k + ")", got.guest(i, k), want.guest(i, k));
        }
    }

    private void sameService(String what, int s, StormBench got, StormBench want) {
        for (int i = 0; i <= 12; i++) is(what + "about " + i, got.about(s, i), want.about(s, i));
        for (int i = 0; i <= 9; i++) is(what + "ruleOf " + i, got.ruleOf(s, i), want.ruleOf(s, i));
        for (int key = 0; key <= 7; key++) is(what + "kept " + key, got.kept(s, key), want.kept(s, key));
        for (int i = 0; i < want.about(s, 0); i++) is(what + "row " + i, got.row(s, i), want.row(s, i));
    }

    /** Ends the program with exit code 1 if an answer was not as due. */
    void end() {
        System.out.println(wrong == 0 ? "all answers are as due, by " + sentences + " sentences"
            : wrong + " answers are not as due");
        if (wrong != 0) System.exit(1);
    }
}
