/** Objects that many tests begin with, and NODES that many of them need. */
final class Solvers {
    private Solvers() {
    }

    /** VARIABLES 0 to 3 as NODES 0 to 3. */
    static FloatSolver withVariables() {
        FloatSolver solver = new FloatSolver();
        for (int v = 0; v < 4; v++) {
            solver.node(1, v, 0);
        }
        return solver;
    }

    /** VARIABLES as NODES, each with the one PLACE 0 in its RANGE. */
    static FloatSolver withPoints() {
        FloatSolver solver = withVariables();
        for (int v = 0; v < 4; v++) {
            solver.range(v, 0, 0);
        }
        return solver;
    }

    static int constant(FloatSolver solver, float number) {
        return solver.node(0, Float.floatToIntBits(number), 0);
    }

    /** A NODE with ALL for its SPAN in every BOX, whose VALUE is NONE. */
    static int all(FloatSolver solver) {
        return solver.node(15, constant(solver, -1f), 0);
    }

    /** A NODE with the SPAN of this one, but that it may be NONE; its VALUE is NONE. */
    static int orNone(FloatSolver solver, int node) {
        int upTo = solver.node(8, node, all(solver));
        return solver.node(9, upTo, node);
    }

    /**
     * A NODE with the VALUE of this one, a number below 1 without sign. Its SPAN is ALL in every BOX
     * that leaves the other one more PLACES than one, so that a search has to go down to each of them.
     */
    static int hidden(FloatSolver solver, int node) {
        return solver.node(14, node, constant(solver, 1f));
    }
}
