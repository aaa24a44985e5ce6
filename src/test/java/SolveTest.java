/** Each sentence of the document on TO SOLVE and on what solve() and solved() answer, at its edges. */
public final class SolveTest {
    private static final Due DUE = new Due("SolveTest");
    private static final long NOTHING = Long.MIN_VALUE;
    private static final int LOWEST = -2139095041;
    private static final int HIGHEST = 2139095040;

    private SolveTest() {
    }

    /**
     * VARIABLE 0 in a RANGE, the others at PLACE 0, and a RULE that is true at these PLACES alone: what
     * is apart from each of them, as a product, is 0. In every BOX with more PLACES it holds perhaps.
     */
    private static FloatSolver hiddenAt(int low, int high, int... places) {
        FloatSolver solver = Solvers.withPoints();
        int hidden = Solvers.hidden(solver, 0);
        int product = Solvers.constant(solver, 1f);
        for (int place : places) {
            int sought = solver.node(0, Machine.bits(place), 0);
            int apart = solver.node(3, hidden, sought);
            // Without the root a product of two such small numbers would be 0 always.
            int root = solver.node(15, solver.node(7, apart, 0), 0);
            product = solver.node(4, product, root);
        }
        solver.range(0, low, high);
        solver.rule(2, product, solver.node(0, 0, 0));
        return solver;
    }

    private static void firstBox() {
        DUE.by("the BOX of all RANGES is looked at first");
        FloatSolver solver = Solvers.withVariables();
        for (int v = 0; v < 4; v++) {
            solver.range(v, 10 * v - 15, 10 * v + 3);
            solver.set(v, 777);
        }
        DUE.is("solve(1)", solver.solve(1), 1);
        DUE.solved("no rules", solver, 1, 1, 0);
        DUE.solution("no rules", solver, -15, -5, 5, 15);
        DUE.by("the BOX of all RANGES: at first all PLACES");
        FloatSolver other = new FloatSolver();
        DUE.is("solve(5000)", other.solve(5000), 1);
        DUE.solved("a new object", other, 1, 1, 0);
        DUE.solution("a new object", other, LOWEST, LOWEST, LOWEST, LOWEST);
    }

    private static void givenUp() {
        DUE.by("if a RULE can not hold it is given up");
        FloatSolver solver = Solvers.withVariables();
        solver.range(0, 5, 9);
        solver.range(1, 7, 12);
        solver.range(2, 1, 4);
        solver.rule(0, 2, 0);
        solver.rule(0, 0, 1);
        solver.rule(0, 1, 2);
        DUE.is("one holds, one perhaps, the last can not", solver.solve(5000), 0);
        DUE.solved("the last can not", solver, 0, 1, 0);
        solver.noRules();
        solver.rule(0, 1, 2);
        solver.rule(0, 0, 1);
        DUE.is("the first can not", solver.solve(5000), 0);
        DUE.solved("the first can not", solver, 0, 1, 0);
        DUE.is("with no more work than one", solver.solve(1), 0);
        DUE.solved("the first can not", solver, 0, 1, 0);
        DUE.by("if a RULE can not hold it is given up: the twelfth of them");
        solver.noRules();
        for (int i = 0; i < 11; i++) {
            solver.rule(5, 0, 0);
        }
        solver.rule(4, 3, 0);
        DUE.is("eleven hold", solver.solve(5000), 0);
        DUE.solved("eleven hold", solver, 0, 1, 0);
    }

    private static void allHold() {
        DUE.by("if all hold, SOLVED: each VARIABLE at the lower end of its RANGE");
        FloatSolver solver = Solvers.withVariables();
        solver.range(0, -9, -2);
        solver.range(1, -1, 6);
        solver.range(3, 8, 8);
        for (int i = 0; i < 12; i++) {
            solver.rule(0, 0, 1);
        }
        DUE.is("twelve hold", solver.solve(1), 1);
        DUE.solved("twelve hold", solver, 1, 1, 0);
        DUE.solution("twelve hold", solver, -9, -1, LOWEST, 8);
        DUE.by("if all hold, SOLVED: in a half");
        solver.noRules();
        int five = solver.node(0, 5, 0);
        solver.range(0, 4, 4);
        solver.range(1, 2, 9);
        solver.rule(0, five, 1);
        // 2 .. 9, 2 .. 5 can not, 6 .. 9 holds
        DUE.is("in the upper half", solver.solve(5000), 1);
        DUE.solved("in the upper half", solver, 1, 3, 1);
        DUE.solution("in the upper half", solver, 4, 6, LOWEST, 8);
    }

    private static void onePlaceEach() {
        DUE.by("else, if it has one PLACE for each VARIABLE: SOLVED, if all RULES are true there");
        FloatSolver solver = Solvers.withPoints();
        int one = Solvers.constant(solver, 1f);
        int quotient = solver.node(5, one, 1);
        int infinity = Solvers.constant(solver, Float.POSITIVE_INFINITY);
        solver.rule(2, quotient, infinity);
        DUE.is("perhaps by spans", solver.judge(0), 2);
        DUE.is("true there", solver.solve(1), 1);
        DUE.solved("true there", solver, 1, 1, 0);
        DUE.solution("true there", solver, 0, 0, 0, 0);
        DUE.by("else, if it has one PLACE for each VARIABLE: .. else given up");
        solver.range(1, -1, -1);
        DUE.is("perhaps by spans", solver.judge(0), 2);
        DUE.is("untrue there", solver.solve(1), 0);
        DUE.solved("untrue there", solver, 0, 1, 0);
        solver.range(1, 0, 0);
        solver.rule(0, quotient, infinity);
        DUE.is("one true, one untrue", solver.solve(5000), 0);
        DUE.solved("one true, one untrue", solver, 0, 1, 0);
        DUE.by("SOLVED, if all RULES are true there: at its PLACES, not as VARIABLES are");
        solver.noRules();
        solver.rule(2, quotient, infinity);
        solver.set(1, -1);
        DUE.is("untrue as variables are", solver.holds(0), 0);
        DUE.is("true there", solver.solve(1), 1);
        DUE.is("values stay", solver.value(1), 0x80000000);
    }

    private static void noneAndMinusZeroThere() {
        DUE.by("if all RULES are true there: NONE and -0 as the machine has them");
        FloatSolver solver = Solvers.withPoints();
        int root = solver.node(15, 0, 0);
        solver.range(0, -2, 0);
        solver.rule(4, root, 0);
        // -2 .. 0, -2 .. -1, -2: the root below 0 is none
        DUE.is("a root that is none", solver.solve(5000), 1);
        DUE.solved("a root that is none", solver, 1, 3, 2);
        DUE.is("its place", solver.solved(3), -2);
        solver.noRules();
        solver.rule(5, root, 0);
        // -2 .. 0, -2 .. -1, -2, -1: the root of -0 is -0
        DUE.is("a root that is a number", solver.solve(5000), 1);
        DUE.solved("a root that is a number", solver, 1, 4, 2);
        DUE.is("its place", solver.solved(3), -1);
        solver.noRules();
        solver.rule(2, 0, 1);
        // -2 .. 0, -2 .. -1, -2 can not, -1: -0 and 0 are the same
        DUE.is("the same as 0", solver.solve(5000), 1);
        DUE.solved("the same as 0", solver, 1, 4, 2);
        DUE.is("its place", solver.solved(3), -1);
    }

    private static void firstWide() {
        DUE.by("else it is halved: the first VARIABLE with more PLACES than one .. and the others");
        FloatSolver solver = Solvers.withPoints();
        int two = solver.node(0, 2, 0);
        solver.range(1, 1, 2);
        solver.range(2, 5, 9);
        solver.range(3, 1, 2);
        solver.rule(2, 3, two);
        // all; 1 at 1; 2 in 5 .. 7, 5 .. 6, 5; then 3 at 1, at 2
        DUE.is("the last one is sought", solver.solve(5000), 1);
        DUE.solved("the last one is sought", solver, 1, 7, 5);
        DUE.solution("the last one is sought", solver, 0, 1, 5, 2);
        for (int v = 0; v < 4; v++) {
            FloatSolver other = Solvers.withPoints();
            other.range(v, 1, 2);
            other.rule(2, v, other.node(0, 2, 0));
            DUE.is("variable " + v, other.solve(5000), 1);
            DUE.solved("variable " + v, other, 1, 3, 1);
            DUE.is("variable " + v, other.solved(3 + v), 2);
            DUE.is("another one", other.solved(3 + (v + 1) % 4), 0);
        }
    }

    private static void middle() {
        DUE.by("from its lower end to its middle (half the sum of both ends, down)");
        // -4 .. -1, -4 .. -3, -4; were it cut toward 0: -4 .. -2 as well
        FloatSolver below = hiddenAt(-4, -1, -4);
        DUE.is("below 0", below.solve(5000), 1);
        DUE.solved("below 0", below, 1, 3, 2);
        DUE.is("below 0", below.solved(3), -4);
        // -3 .. 0, -3 .. -2, -3
        FloatSolver across = hiddenAt(-3, 0, -3);
        DUE.is("across 0", across.solve(5000), 1);
        DUE.solved("across 0", across, 1, 3, 2);
        // 1 .. 3, 1 .. 2, 1, 2, 3
        FloatSolver three = hiddenAt(1, 3, 3);
        DUE.is("three places", three.solve(5000), 1);
        DUE.solved("three places", three, 1, 5, 2);
        // -1 .. 0, -1: the middle is -1; 0 is the same number
        FloatSolver zeros = hiddenAt(-1, 0, 0);
        DUE.is("both zeros", zeros.solve(5000), 1);
        DUE.solved("both zeros", zeros, 1, 2, 1);
        DUE.is("both zeros", zeros.solved(3), -1);
    }

    /** Sums of ends beyond what an int holds. */
    private static void middleOfFarEnds() {
        DUE.by("its middle (half the sum of both ends, down): of ends far out");
        for (int[] ends : new int[][] {{HIGHEST - 1, HIGHEST}, {LOWEST, LOWEST + 1}, {HIGHEST - 2, HIGHEST - 1}}) {
            FloatSolver solver = Solvers.withPoints();
            solver.range(2, ends[0], ends[1]);
            solver.rule(2, 2, solver.node(0, Machine.bits(ends[1]), 0));
            DUE.is("the upper end", solver.solve(3), 1);
            DUE.solved("the upper end", solver, 1, 3, 1);
            DUE.is("the upper end", solver.solved(5), ends[1]);
        }
        FloatSolver solver = Solvers.withPoints();
        solver.range(0, LOWEST, HIGHEST);
        int least = solver.node(0, 1, 0);
        solver.rule(1, least, 0);
        // all: the middle is -1; LOWEST .. -1 can not; 0 .. HIGHEST, 31 times halved down to 0 and 1
        DUE.is("all places", solver.solve(5000), 1);
        DUE.is("the least one", solver.solved(3), 1);
        DUE.is("boxes halved", solver.solved(2), 32);
    }

    private static void lowerHalfFirst() {
        DUE.by("the lower half is looked at next, with all that comes of it, then the other one");
        FloatSolver two = hiddenAt(8, 15, 10, 13);
        // 8 .. 15, 8 .. 11, 8 .. 9, 8, 9, 10 .. 11, 10
        DUE.is("two solutions", two.solve(5000), 1);
        DUE.solved("two solutions", two, 1, 7, 4);
        DUE.is("the lower one", two.solved(3), 10);
        FloatSolver upper = hiddenAt(8, 15, 13);
        // and 11, 12 .. 15, 12 .. 13, 12, 13
        DUE.is("in the upper half", upper.solve(5000), 1);
        DUE.solved("in the upper half", upper, 1, 12, 6);
        DUE.is("in the upper half", upper.solved(3), 13);
        FloatSolver solver = Solvers.withPoints();
        solver.range(0, 8, 9);
        solver.range(3, 2, 3);
        solver.rule(2, solver.node(2, Solvers.hidden(solver, 0), 3), solver.node(0, 11, 0));
        // all; 0 at 8: 3 at 2, 3 at 3
        DUE.is("8 + 3 ahead of 9 + 2", solver.solve(5000), 1);
        DUE.solved("8 + 3 ahead of 9 + 2", solver, 1, 4, 2);
        DUE.solution("8 + 3 ahead of 9 + 2", solver, 8, 0, 0, 3);
        DUE.by("then the other one: the others have their whole RANGES there again");
        solver.noRules();
        solver.rule(2, 0, solver.node(0, 9, 0));
        solver.rule(2, 3, solver.node(0, 2, 0));
        solver.rule(4, solver.node(3, Solvers.all(solver), 0), 0);
        // all; 0 at 8 can not; 0 at 9: 3 at 2
        DUE.is("9 and 2", solver.solve(5000), 1);
        DUE.solution("9 and 2", solver, 9, 0, 0, 2);
    }

    private static void upperHalfHasWholeRanges() {
        DUE.by("the first VARIABLE .., and the others: of the other half too");
        FloatSolver solver = Solvers.withPoints();
        solver.range(0, 8, 9);
        solver.range(1, 2, 5);
        int sum = solver.node(2, Solvers.hidden(solver, 0), Solvers.hidden(solver, 1));
        solver.rule(2, sum, solver.node(0, 11, 0));
        solver.rule(0, solver.node(0, 8, 0), Solvers.hidden(solver, 0));
        // all; 0 at 8: can not; 0 at 9: 2 .. 5, 2 .. 3, 2
        DUE.is("9 + 2", solver.solve(5000), 1);
        DUE.solution("9 + 2", solver, 9, 2, 0, 0);
        FloatSolver deep = Solvers.withPoints();
        deep.range(0, 8, 9);
        deep.range(1, 2, 5);
        int hidden = Solvers.hidden(deep, 1);
        deep.rule(2, deep.node(3, deep.node(2, hidden, hidden), 0), deep.node(0, 1, 0));
        // 2 * 5 - 9 == 1 alone: all; 0 at 8 with 2 .. 5, 2 .. 3, 2, 3, 4 .. 5, 4, 5; 0 at 9 likewise
        DUE.is("at the very end", deep.solve(5000), 1);
        DUE.solved("at the very end", deep, 1, 15, 7);
        DUE.solution("at the very end", deep, 9, 5, 0, 0);
    }

    private static void spent() {
        DUE.by("Before a (w + 1)st BOX would be looked at it is SPENT: SOLVED in the last box");
        FloatSolver solver = hiddenAt(0, 7, 7);
        // 0 .. 7 down to each place: 15 boxes
        DUE.is("solve(15)", solver.solve(15), 1);
        DUE.solved("solve(15)", solver, 1, 15, 7);
        DUE.is("solve(14)", solver.solve(14), 2);
        DUE.solved("solve(14)", solver, 2, 14, 7);
        DUE.is("solve(2)", solver.solve(2), 2);
        DUE.solved("solve(2)", solver, 2, 2, 2);
        DUE.is("solve(1)", solver.solve(1), 2);
        DUE.solved("solve(1)", solver, 2, 1, 1);
        DUE.by("Before a (w + 1)st BOX would be looked at it is SPENT: none in the last box");
        FloatSolver none = hiddenAt(0, 7, 8);
        DUE.is("solve(15)", none.solve(15), 0);
        DUE.solved("solve(15)", none, 0, 15, 7);
        DUE.is("solve(16)", none.solve(16), 0);
        DUE.solved("solve(16)", none, 0, 15, 7);
        DUE.is("solve(14)", none.solve(14), 2);
        DUE.solved("solve(14)", none, 2, 14, 7);
        DUE.by("WORK w (1 to 5000): one box");
        FloatSolver one = hiddenAt(3, 3, 3);
        DUE.is("solved", one.solve(1), 1);
        DUE.solved("solved", one, 1, 1, 0);
        FloatSolver noOne = hiddenAt(3, 3, 4);
        DUE.is("none", noOne.solve(1), 0);
        DUE.solved("none", noOne, 0, 1, 0);
    }

    private static void mostWork() {
        DUE.by("WORK w (1 to 5000): the 5000th box is looked at");
        // The k-th of 2^18 places, from 0 on, is box 2 k less the bits set in k, and 19 more: with 2495, 5000.
        FloatSolver solver = hiddenAt(0, (1 << 18) - 1, 2495);
        DUE.is("solve(5000)", solver.solve(5000), 1);
        DUE.solved("solve(5000)", solver, 1, 5000, 5000 - 2496);
        DUE.is("its place", solver.solved(3), 2495);
        DUE.is("solve(4999)", solver.solve(4999), 2);
        DUE.solved("solve(4999)", solver, 2, 4999, 5000 - 2496);
        FloatSolver none = hiddenAt(0, 2499, 2500);
        DUE.is("none in 4999 boxes", none.solve(4999), 0);
        DUE.solved("none in 4999 boxes", none, 0, 4999, 2499);
        DUE.is("with one box left", none.solve(5000), 0);
        DUE.is("with one box less", none.solve(4998), 2);
        FloatSolver more = hiddenAt(0, 2500, 2501);
        DUE.is("5001 boxes are too many", more.solve(5000), 2);
        DUE.solved("5001 boxes are too many", more, 2, 5000, 2500);
    }

    private static void deepest() {
        DUE.by("halved, with all that comes of it: each VARIABLE from all PLACES down to one");
        FloatSolver solver = Solvers.withVariables();
        int infinity = Solvers.constant(solver, Float.POSITIVE_INFINITY);
        for (int v = 0; v < 4; v++) {
            solver.rule(2, v, infinity);
        }
        // Of 4278190082 places the upper half, the smaller one, is one place after 31 halvings.
        DUE.is("all at the highest", solver.solve(5000), 1);
        DUE.solved("all at the highest", solver, 1, 1 + 2 * 4 * 31, 4 * 31);
        DUE.solution("all at the highest", solver, HIGHEST, HIGHEST, HIGHEST, HIGHEST);
        solver.noRules();
        int minusInfinity = Solvers.constant(solver, Float.NEGATIVE_INFINITY);
        for (int v = 0; v < 4; v++) {
            solver.rule(2, v, minusInfinity);
        }
        // The lower half needs 32 of them.
        DUE.is("all at the lowest", solver.solve(5000), 1);
        DUE.solved("all at the lowest", solver, 1, 1 + 4 * 32, 4 * 32);
        DUE.solution("all at the lowest", solver, LOWEST, LOWEST, LOWEST, LOWEST);
        solver.rule(5, Solvers.all(solver), 0);
        DUE.is("untrue at the only place, and back through all halves", solver.solve(5000), 0);
        DUE.solved("untrue at the only place", solver, 0, 1 + 2 * 4 * 32, 4 * 32);
    }

    private static void answers() {
        DUE.by("It is SOLVED with WORK w: 1, there is none: 0, it is SPENT: 2.");
        DUE.is("solved", hiddenAt(0, 3, 1).solve(50), 1);
        DUE.is("none", hiddenAt(0, 3, 4).solve(50), 0);
        DUE.is("spent", hiddenAt(0, 300, 200).solve(50), 2);
        DUE.by("Of the latest solve(), that was not refused: 0 what it answered, 1 .. looked at, 2 .. halved");
        FloatSolver solver = hiddenAt(0, 3, 1);
        for (int what = 0; what < 7; what++) {
            DUE.is("before any: solved(" + what + ")", solver.solved(what), NOTHING);
        }
        DUE.is("solve(0)", solver.solve(0), -2);
        DUE.is("solve(5001)", solver.solve(5001), -2);
        for (int what = 0; what < 7; what++) {
            DUE.is("after refused ones alone: solved(" + what + ")", solver.solved(what), NOTHING);
        }
        solver.solve(50);
        DUE.solved("solved", solver, 1, 4, 2);
        DUE.is("solve(0)", solver.solve(0), -2);
        DUE.is("solve(5001)", solver.solve(5001), -2);
        DUE.solved("a refused one does not count", solver, 1, 4, 2);
        DUE.solution("a refused one does not count", solver, 1, 0, 0, 0);
        solver.solve(2);
        DUE.solved("the latest: spent", solver, 2, 2, 2);
        solver.range(0, 2, 3);
        DUE.solved("a new range is not solved yet", solver, 2, 2, 2);
        solver.solve(50);
        DUE.solved("the latest: none", solver, 0, 3, 1);
        solver.solve(-7);
        DUE.solved("a refused one does not count", solver, 0, 3, 1);
    }

    private static void solvedPlaces() {
        DUE.by("3 to 6 the PLACE of VARIABLE 0 to 3, if it was SOLVED.");
        FloatSolver solver = Solvers.withVariables();
        solver.range(0, LOWEST, -2);
        solver.range(1, -1, 4);
        solver.range(2, 0, 4);
        solver.range(3, HIGHEST, HIGHEST);
        solver.solve(1);
        DUE.solution("each its own", solver, LOWEST, -1, 0, HIGHEST);
        solver.range(0, 5, 5);
        solver.set(1, 3);
        solver.rule(4, 0, 0);
        solver.node(0, 0, 0);
        DUE.solution("they stay until the next one", solver, LOWEST, -1, 0, HIGHEST);
        solver.noRules();
        DUE.solution("they stay until the next one", solver, LOWEST, -1, 0, HIGHEST);
        solver.span(0, 0);
        solver.value(0);
        DUE.solution("they stay until the next one", solver, LOWEST, -1, 0, HIGHEST);
        DUE.by("if it was SOLVED. NOTHING.");
        solver.rule(4, 0, 0);
        DUE.is("none", solver.solve(5), 0);
        for (int what = 3; what < 7; what++) {
            DUE.is("none: solved(" + what + ")", solver.solved(what), NOTHING);
        }
        FloatSolver spent = hiddenAt(0, 300, 200);
        DUE.is("spent", spent.solve(5), 2);
        for (int what = 3; what < 7; what++) {
            DUE.is("spent: solved(" + what + ")", spent.solved(what), NOTHING);
        }
        DUE.by("solved: what is none of 0 to 6");
        FloatSolver other = new FloatSolver();
        other.solve(1);
        for (int what : new int[] {-1, 7, 8, Integer.MIN_VALUE, Integer.MIN_VALUE + 2, Integer.MAX_VALUE}) {
            DUE.is("solved(" + what + ")", other.solved(what), NOTHING);
        }
    }

    public static void main(String[] args) {
        firstBox();
        givenUp();
        allHold();
        onePlaceEach();
        noneAndMinusZeroThere();
        firstWide();
        middle();
        middleOfFarEnds();
        lowerHalfFirst();
        upperHalfHasWholeRanges();
        spent();
        mostWork();
        deepest();
        answers();
        solvedPlaces();
        DUE.end();
    }
}
