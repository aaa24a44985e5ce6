/** Counts answers that are not the ones that are due, and tells of the first of them. */
final class Due {
    private static final long NOTHING = Long.MIN_VALUE;
    private static final int LOWEST = -2139095041;
    private static final int HIGHEST = 2139095040;
    private static final int TOLD = 40;
    private final String test;
    private String sentence = "";
    private int sentences = 0;
    private int askedBefore = 0;
    private int asked = 0;
    private int wrong = 0;

    Due(String test) {
        this.test = test;
    }

    /** What is asked from here on is due by this sentence of the document; each has to be asked for. */
    void by(String newSentence) {
        endSentence();
        sentence = newSentence;
        sentences++;
    }

    private void endSentence() {
        if (sentences > 0 && asked == askedBefore) {
            wrong++;
            System.out.println(test + ": nothing was asked by \"" + sentence + "\"");
        }
        askedBefore = asked;
    }

    void is(String what, long got, long want) {
        asked++;
        if (got != want) {
            wrong++;
            if (wrong <= TOLD) {
                String why = sentence.isEmpty() ? "" : " by \"" + sentence + "\"";
                System.out.println(test + ": " + what + " answered " + got + ", due is " + want + why);
            }
        }
    }

    void isTrue(String what, boolean got) {
        is(what, got ? 1 : 0, 1);
    }

    void span(String what, FloatSolver solver, int node, long low, long high, long none) {
        is(what + ": numbers", solver.span(node, 0), 1);
        is(what + ": low", solver.span(node, 1), low);
        is(what + ": high", solver.span(node, 2), high);
        is(what + ": none", solver.span(node, 3), none);
    }

    void all(String what, FloatSolver solver, int node) {
        span(what, solver, node, LOWEST, HIGHEST, 1);
    }

    void onlyNone(String what, FloatSolver solver, int node) {
        is(what + ": numbers", solver.span(node, 0), 0);
        is(what + ": low", solver.span(node, 1), NOTHING);
        is(what + ": high", solver.span(node, 2), NOTHING);
        is(what + ": none", solver.span(node, 3), 1);
    }

    void solved(String what, FloatSolver solver, long answer, long looked, long halved) {
        is(what + ": solved(0)", solver.solved(0), answer);
        is(what + ": solved(1)", solver.solved(1), looked);
        is(what + ": solved(2)", solver.solved(2), halved);
        for (int i = 3; i < 7 && answer != 1; i++) {
            is(what + ": solved(" + i + ")", solver.solved(i), NOTHING);
        }
    }

    void solution(String what, FloatSolver solver, long... places) {
        for (int v = 0; v < 4; v++) {
            is(what + ": solved(" + (v + 3) + ")", solver.solved(v + 3), places[v]);
        }
    }

    boolean failed() {
        return wrong != 0;
    }

    void end() {
        endSentence();
        String by = sentences == 0 ? "" : " by " + sentences + " sentences";
        System.out.println(test + ": " + asked + " answers" + by + ", " + wrong + " of them wrong");
        if (wrong != 0 || asked == 0) {
            System.exit(1);
        }
    }
}
