/** Each sentence of the document on SPANS and on RULES in a BOX, at the edges that it names. */
public final class SpansTest {
    private static final Due DUE = new Due("SpansTest");
    private static final int LOWEST = -2139095041;
    private static final int HIGHEST = 2139095040;
    private static final int NONE = 0x7fc00000;
    private static final float LEAST = 0x1p-149f;
    private static final int PLUS = 2;
    private static final int LESS = 3;
    private static final int TIMES = 4;
    private static final int THROUGH = 5;
    private static final int NEGATIVE = 6;
    private static final int SIZE = 7;
    private static final int LESSER = 8;
    private static final int GREATER = 9;
    private static final int DOWN = 10;
    private static final int UP = 11;
    private static final int NEAREST = 12;
    private static final int AS_INT = 13;
    private static final int REST = 14;
    private static final int ROOT = 15;
    private static final int[] OF_ONE = {NEGATIVE, SIZE, DOWN, UP, NEAREST, AS_INT, ROOT};
    private static final int[] OF_TWO = {PLUS, LESS, TIMES, THROUGH, LESSER, GREATER, REST};
    private static final int[] OF_CORNERS = {PLUS, LESS, TIMES, THROUGH};

    private SpansTest() {
    }

    private static int place(float number) {
        return Machine.placeOf(number);
    }

    private static int[] span(int low, int high) {
        return new int[] {low, high};
    }

    private static int[] span(float low, float high) {
        return span(place(low), place(high));
    }

    /** A NODE more with this SPAN, which is that of VARIABLE v or of what is like it or NONE. */
    private static int node(FloatSolver solver, int v, int[] span, boolean orNone) {
        solver.range(v, span[0], span[1]);
        return orNone ? Solvers.orNone(solver, v) : v;
    }

    private static String told(int kind, int[] x, int[] y) {
        String of = "kind " + kind + " of " + x[0] + " .. " + x[1];
        return y == null ? of : of + " and " + y[0] + " .. " + y[1];
    }

    private static void due(int kind, int[] x, int[] want) {
        FloatSolver solver = Solvers.withVariables();
        int of = node(solver, 0, x, false);
        DUE.span(told(kind, x, null), solver, solver.node(kind, of, 0), want[0], want[1], 0);
    }

    private static void dueOrNone(int kind, int[] x, int[] want, int none) {
        FloatSolver solver = Solvers.withVariables();
        int of = node(solver, 0, x, true);
        DUE.span("what is so", solver, of, x[0], x[1], 1);
        DUE.span(told(kind, x, null) + " or none", solver, solver.node(kind, of, 0), want[0], want[1], none);
    }

    private static void due(int kind, int[] x, int[] y, int[] want) {
        FloatSolver solver = Solvers.withVariables();
        solver.range(0, x[0], x[1]);
        solver.range(1, y[0], y[1]);
        DUE.span(told(kind, x, y), solver, solver.node(kind, 0, 1), want[0], want[1], 0);
    }

    /** With x, with y and with both NONE perhaps. */
    private static void dueOrNone(int kind, int[] x, int[] y, int[] want) {
        for (int which = 1; which < 4; which++) {
            FloatSolver solver = Solvers.withVariables();
            int xNode = node(solver, 0, x, (which & 1) != 0);
            int yNode = node(solver, 1, y, (which & 2) != 0);
            int both = solver.node(kind, xNode, yNode);
            DUE.span(told(kind, x, y) + ", none " + which, solver, both, want[0], want[1], 1);
        }
    }

    private static void dueAll(int kind, int[] x, int[] y) {
        FloatSolver solver = Solvers.withVariables();
        solver.range(0, x[0], x[1]);
        solver.range(1, y[0], y[1]);
        DUE.all(told(kind, x, y), solver, solver.node(kind, 0, 1));
    }

    private static void constantsAndVariables() {
        DUE.by("Of kind 0: that.");
        for (int place : new int[] {LOWEST, LOWEST + 1, -2, -1, 0, 1, HIGHEST - 1, HIGHEST}) {
            FloatSolver solver = new FloatSolver();
            solver.node(0, Machine.bits(place), 0);
            DUE.span("a constant", solver, 0, place, place, 0);
        }
        for (int bits : new int[] {0x7f800001, NONE, 0x7fffffff, 0xff800001, -1}) {
            FloatSolver solver = new FloatSolver();
            solver.node(0, bits, 0);
            DUE.onlyNone("no number", solver, 0);
        }
        DUE.by("1: its RANGE.");
        FloatSolver solver = Solvers.withVariables();
        int again = solver.node(1, 2, 0);
        solver.range(2, -5, 8);
        solver.set(2, 100);
        DUE.span("variable 2", solver, 2, -5, 8, 0);
        DUE.span("variable 2 once more", solver, again, -5, 8, 0);
        solver.range(2, -1, -1);
        DUE.span("one place", solver, 2, -1, -1, 0);
        DUE.span("one place", solver, again, -1, -1, 0);
        DUE.span("another one", solver, 3, LOWEST, HIGHEST, 0);
    }

    private static void withoutNumbers() {
        DUE.by("Else, if one of x, y (as the kind has them) has no numbers: it has none, and may be NONE");
        FloatSolver solver = Solvers.withVariables();
        int none = solver.node(0, NONE, 0);
        for (int kind : OF_ONE) {
            if (kind != AS_INT) {
                DUE.onlyNone("kind " + kind, solver, solver.node(kind, none, 0));
            }
        }
        for (int kind : OF_TWO) {
            DUE.onlyNone("kind " + kind + ", x", solver, solver.node(kind, none, 0));
            DUE.onlyNone("kind " + kind + ", y", solver, solver.node(kind, 0, none));
            DUE.onlyNone("kind " + kind + ", both", solver, solver.node(kind, none, none));
        }
        DUE.by("(as the kind has them): y of kinds of one NODE has no part in it");
        for (int kind : OF_ONE) {
            FloatSolver other = Solvers.withVariables();
            other.node(0, NONE, 0);
            other.range(0, 0, 0);
            int of = other.node(kind, 0, 4);
            int want = kind == NEGATIVE ? -1 : 0;
            DUE.span("kind " + kind, other, of, want, want, 0);
        }
        DUE.by("(13: it is at 0 alone)");
        DUE.span("none as an int", solver, solver.node(AS_INT, none, 0), 0, 0, 0);
    }

    private static void bothEnds() {
        DUE.by("6: from the least to the greatest VALUE at both ENDS");
        due(NEGATIVE, span(-2f, 3f), span(-3f, 2f));
        due(NEGATIVE, span(-1, 0), span(-1, 0));
        due(NEGATIVE, span(0, 5), span(-6, -1));
        due(NEGATIVE, span(LOWEST, HIGHEST), span(LOWEST, HIGHEST));
        DUE.by("7: from the least to the greatest VALUE at both ENDS");
        due(SIZE, span(2f, 3f), span(2f, 3f));
        due(SIZE, span(-3f, -2f), span(2f, 3f));
        due(SIZE, span(1, 7), span(1, 7));
        due(SIZE, span(-7, -2), span(1, 6));
        due(SIZE, span(LOWEST, -2), span(1, HIGHEST));
        DUE.by("of 7 from 0, if -1 and 0 lie between");
        due(SIZE, span(-1, 0), span(0, 0));
        due(SIZE, span(-2, 1), span(0, 1));
        due(SIZE, span(-3f, 2f), span(0f, 3f));
        due(SIZE, span(-2f, 3f), span(0f, 3f));
        due(SIZE, span(-3f, 0f), span(0f, 3f));
        due(SIZE, span(-0f, 3f), span(0f, 3f));
        due(SIZE, span(-3f, -0f), span(0f, 3f));
        due(SIZE, span(0f, 3f), span(0f, 3f));
        due(SIZE, span(LOWEST, HIGHEST), span(0, HIGHEST));
        DUE.by("10, 11, 12: from the least to the greatest VALUE at both ENDS");
        due(DOWN, span(-1.5f, 1.5f), span(-2f, 1f));
        due(DOWN, span(-LEAST, 0.75f), span(-1f, 0f));
        due(DOWN, span(-0f, 0.75f), span(-1, 0));
        due(UP, span(-1.5f, 1.5f), span(-1f, 2f));
        due(UP, span(-0.75f, LEAST), span(-0f, 1f));
        due(UP, span(-0.75f, -0.25f), span(-1, -1));
        due(NEAREST, span(-1.5f, 2.5f), span(-2f, 2f));
        due(NEAREST, span(-0.5f, 0.5f), span(-1, 0));
        due(NEAREST, span(LOWEST, HIGHEST), span(LOWEST, HIGHEST));
        DUE.by("13: from the least to the greatest VALUE at both ENDS");
        due(AS_INT, span(-1.5f, 2.5f), span(-1f, 2f));
        due(AS_INT, span(-0.75f, -0f), span(0, 0));
        due(AS_INT, span(3.5f, 4.5f), span(3f, 4f));
        due(AS_INT, span(LOWEST, HIGHEST), span(-0x1p31f, 0x1p31f));
    }

    private static void bothEndsOrNone() {
        DUE.by("NONE, if x may be");
        dueOrNone(NEGATIVE, span(-2f, 3f), span(-3f, 2f), 1);
        dueOrNone(SIZE, span(-2f, 3f), span(0f, 3f), 1);
        dueOrNone(DOWN, span(-1.5f, 1.5f), span(-2f, 1f), 1);
        dueOrNone(UP, span(-1.5f, 1.5f), span(-1f, 2f), 1);
        dueOrNone(NEAREST, span(-1.5f, 2.5f), span(-2f, 2f), 1);
        DUE.by("(13: never; 0 is one of those VALUES then)");
        dueOrNone(AS_INT, span(3.5f, 4.5f), span(0f, 4f), 0);
        dueOrNone(AS_INT, span(-4.5f, -3.5f), span(-4f, 0f), 0);
        dueOrNone(AS_INT, span(-4.5f, 3.5f), span(-4f, 3f), 0);
        dueOrNone(AS_INT, span(0.25f, 0.5f), span(0, 0), 0);
        dueOrNone(AS_INT, span(7f, 7f), span(0f, 7f), 0);
    }

    private static void roots() {
        DUE.by("15: likewise");
        due(ROOT, span(4f, 9f), span(2f, 3f));
        due(ROOT, span(0f, 9f), span(0f, 3f));
        due(ROOT, span(0, HIGHEST), span(0, HIGHEST));
        dueOrNone(ROOT, span(4f, 9f), span(2f, 3f), 1);
        DUE.by("if x's lower END is below -1: ALL");
        due(ROOT, span(-1, -1), span(-1, -1));
        due(ROOT, span(-0f, 9f), span(-0f, 3f));
        for (int[] x : new int[][] {{-2, -2}, {-2, -1}, {-2, 0}, {-2, HIGHEST}, {LOWEST, LOWEST}, {LOWEST, HIGHEST}}) {
            FloatSolver solver = Solvers.withVariables();
            solver.range(0, x[0], x[1]);
            DUE.all(told(ROOT, x, null), solver, solver.node(ROOT, 0, 0));
        }
        dueOrNone(ROOT, span(-2, 5), span(LOWEST, HIGHEST), 1);
    }

    private static void lesserAndGreater() {
        DUE.by("8, 9: that of both lower ENDS to that of both upper ones");
        due(LESSER, span(-2f, 5f), span(1f, 3f), span(-2f, 3f));
        due(LESSER, span(1f, 3f), span(-2f, 5f), span(-2f, 3f));
        due(LESSER, span(1f, 2f), span(3f, 4f), span(1f, 2f));
        due(LESSER, span(-1, -1), span(0, 0), span(-1, -1));
        due(LESSER, span(0, 7), span(-1, 0), span(-1, 0));
        due(GREATER, span(-2f, 5f), span(1f, 3f), span(1f, 5f));
        due(GREATER, span(1f, 3f), span(-2f, 5f), span(1f, 5f));
        due(GREATER, span(1f, 2f), span(3f, 4f), span(3f, 4f));
        due(GREATER, span(-1, -1), span(0, 0), span(0, 0));
        due(GREATER, span(-7, -1), span(-1, 0), span(-1, 0));
        due(GREATER, span(LOWEST, HIGHEST), span(LOWEST, HIGHEST), span(LOWEST, HIGHEST));
        DUE.by("8, 9: NONE, if x or y may be.");
        dueOrNone(LESSER, span(-2f, 5f), span(1f, 3f), span(-2f, 3f));
        dueOrNone(GREATER, span(-2f, 5f), span(1f, 3f), span(1f, 5f));
    }

    private static void fourEnds() {
        DUE.by("2, 3, 4, 5: Else from the least to the greatest of the four");
        due(PLUS, span(-2f, 3f), span(4f, 8f), span(2f, 11f));
        due(PLUS, span(-1, -1), span(-1, 0), span(-1, 0));
        due(LESS, span(-2f, 3f), span(4f, 8f), span(-10f, -1f));
        due(LESS, span(-1, -1), span(-1, 0), span(-1, 0));
        due(TIMES, span(2f, 3f), span(4f, 8f), span(8f, 24f));
        due(TIMES, span(-3f, -2f), span(4f, 8f), span(-24f, -8f));
        due(TIMES, span(-3f, -2f), span(-8f, -4f), span(8f, 24f));
        due(TIMES, span(-2f, 3f), span(-5f, 7f), span(-15f, 21f));
        due(TIMES, span(-3f, 2f), span(-7f, 5f), span(-15f, 21f));
        due(TIMES, span(-2f, 3f), span(-8f, 1f), span(-24f, 16f));
        due(TIMES, span(0, 0), span(-2f, 3f), span(-1, 0));
        due(THROUGH, span(1f, 8f), span(2f, 4f), span(0.25f, 4f));
        due(THROUGH, span(-8f, -1f), span(2f, 4f), span(-4f, -0.25f));
        due(THROUGH, span(-8f, 1f), span(-4f, -2f), span(-0.5f, 4f));
        due(THROUGH, span(0, 0), span(2f, 4f), span(0, 0));
        due(THROUGH, span(-0f, 0f), span(-4f, -2f), span(-1, 0));
        DUE.by("2, 3, 4, 5: NONE, if x or y may be.");
        dueOrNone(PLUS, span(-2f, 3f), span(4f, 8f), span(2f, 11f));
        dueOrNone(LESS, span(-2f, 3f), span(4f, 8f), span(-10f, -1f));
        dueOrNone(TIMES, span(-2f, 3f), span(-5f, 7f), span(-15f, 21f));
        dueOrNone(THROUGH, span(1f, 8f), span(2f, 4f), span(0.25f, 4f));
    }

    private static void fourEndsWithNone() {
        int[] down = {LOWEST, place(1f)};
        int[] up = {place(1f), HIGHEST};
        DUE.by("2, 3, 4, 5: if one of the four VALUES at both ENDS is NONE .. ALL.");
        dueAll(PLUS, down, up);
        dueAll(PLUS, up, down);
        dueAll(PLUS, span(HIGHEST, HIGHEST), span(LOWEST, LOWEST));
        due(PLUS, down, down, span(place(Float.NEGATIVE_INFINITY), place(2f)));
        due(PLUS, up, up, span(place(2f), HIGHEST));
        dueAll(LESS, down, down);
        dueAll(LESS, up, up);
        due(LESS, down, up, span(LOWEST, 0));
        due(LESS, up, down, span(0, HIGHEST));
        dueAll(TIMES, span(-1, -1), span(HIGHEST, HIGHEST));
        dueAll(TIMES, span(LOWEST, LOWEST), span(0, 0));
        dueAll(THROUGH, span(HIGHEST, HIGHEST), span(LOWEST, LOWEST));
        DUE.by("ALL is from minus infinity to infinity, and may be NONE.");
        dueAll(PLUS, span(LOWEST, LOWEST), span(HIGHEST, HIGHEST));
    }

    private static void productsOfZero() {
        DUE.by("with 4 if one has -1 or 0 between its ENDS and the other an infinity as an END .. ALL");
        int[][] zeros = {{place(-1f), place(1f)}, {-2, 1}, {-1, 0}, {-1, 5}, {-5, -1}, {0, 5}, {-5, 0}, {-1, -1}, {0, 0}};
        int[][] infinite = {{1, HIGHEST}, {LOWEST, -2}, {LOWEST, HIGHEST}, {HIGHEST, HIGHEST}, {LOWEST, LOWEST}};
        for (int[] zero : zeros) {
            for (int[] end : infinite) {
                dueAll(TIMES, zero, end);
                dueAll(TIMES, end, zero);
            }
        }
        DUE.by("with 4: 0 without infinity, infinity without 0");
        due(TIMES, span(place(-1f), place(1f)), span(LOWEST + 1, HIGHEST - 1), span(LOWEST + 1, HIGHEST - 1));
        due(TIMES, span(1, 1), span(1f, Float.POSITIVE_INFINITY), span(1, HIGHEST));
        due(TIMES, span(Float.NEGATIVE_INFINITY, -1f), span(-2, -2), span(1, HIGHEST));
        due(TIMES, span(LOWEST, LOWEST), span(1f, 2f), span(LOWEST, LOWEST));
        due(TIMES, span(1f, Float.POSITIVE_INFINITY), span(Float.NEGATIVE_INFINITY, -1f), span(LOWEST, place(-1f)));
    }

    private static void quotientsByZero() {
        DUE.by("with 5 if y has -1 or 0 between its ENDS .. ALL");
        for (int[] zero : new int[][] {{-1, -1}, {0, 0}, {-1, 0}, {-5, -1}, {0, 5}, {-5, 0}, {-1, 5}, {-5, 5},
            {LOWEST, HIGHEST}, {place(-1f), place(1f)}}) {
            dueAll(THROUGH, span(1f, 2f), zero);
            dueAll(THROUGH, span(-2f, -2f), zero);
            dueAll(THROUGH, span(0, 0), zero);
        }
        due(THROUGH, span(1f, 2f), span(1, 5), span(HIGHEST, HIGHEST));
        due(THROUGH, span(1f, 2f), span(-5, -2), span(LOWEST, LOWEST));
        due(THROUGH, span(-1f, 1f), span(1f, 2f), span(-1f, 1f));
        DUE.by("with 5 if .. x and y an infinity as an END each: ALL");
        int[][] infinite = {{1, HIGHEST}, {LOWEST, -2}, {HIGHEST, HIGHEST}, {LOWEST, LOWEST}};
        for (int[] x : infinite) {
            for (int[] y : infinite) {
                dueAll(THROUGH, x, y);
            }
        }
        DUE.by("with 5: an infinity as an END of x alone, of y alone");
        due(THROUGH, span(1f, Float.POSITIVE_INFINITY), span(1f, 2f), span(place(0.5f), HIGHEST));
        due(THROUGH, span(Float.NEGATIVE_INFINITY, 1f), span(1f, 2f), span(LOWEST, place(1f)));
        due(THROUGH, span(1f, 2f), span(2f, Float.POSITIVE_INFINITY), span(0f, 1f));
        due(THROUGH, span(1f, 2f), span(Float.NEGATIVE_INFINITY, -2f), span(-1f, -0f));
        due(THROUGH, span(-2f, 2f), span(HIGHEST, HIGHEST), span(-1, 0));
    }

    private static void rests() {
        int seven = place(7f);
        int four = place(4f);
        DUE.by("14: ALL");
        dueAll(REST, span(seven, seven + 1), span(four, four));
        dueAll(REST, span(seven, seven), span(four, four + 1));
        dueAll(REST, span(seven, seven + 1), span(four, four + 1));
        dueAll(REST, span(-1, 0), span(four, four));
        dueAll(REST, span(LOWEST, HIGHEST), span(LOWEST, HIGHEST));
        DUE.by("14: but that VALUE alone if both are at one PLACE");
        due(REST, span(seven, seven), span(four, four), span(3f, 3f));
        due(REST, span(-1, -1), span(four, four), span(-1, -1));
        due(REST, span(place(-8f), place(-8f)), span(four, four), span(-1, -1));
        due(REST, span(seven, seven), span(HIGHEST, HIGHEST), span(seven, seven));
        DUE.by("14: .. and not NONE");
        dueOrNone(REST, span(seven, seven), span(four, four), span(LOWEST, HIGHEST));
        DUE.by("(is it that: no numbers, NONE)");
        for (int[] xy : new int[][] {{seven, 0}, {seven, -1}, {0, 0}, {HIGHEST, four}, {LOWEST, HIGHEST}}) {
            FloatSolver solver = Solvers.withVariables();
            solver.range(0, xy[0], xy[0]);
            solver.range(1, xy[1], xy[1]);
            DUE.onlyNone("rest of " + xy[0] + ", " + xy[1], solver, solver.node(REST, 0, 1));
        }
    }

    private static void boxOfAllRanges() {
        DUE.by("SPAN of a NODE in the BOX of all RANGES");
        FloatSolver solver = Solvers.withVariables();
        int sum = solver.node(PLUS, 0, 3);
        int twice = solver.node(PLUS, sum, sum);
        solver.range(0, place(1f), place(2f));
        solver.range(3, place(1f), place(4f));
        DUE.span("sum", solver, sum, place(2f), place(6f), 0);
        DUE.span("twice", solver, twice, place(4f), place(12f), 0);
        solver.range(3, place(3f), place(3f));
        DUE.span("another range", solver, twice, place(8f), place(10f), 0);
        DUE.span("another range", solver, sum, place(4f), place(5f), 0);
        solver.set(0, 0);
        DUE.span("values do not matter", solver, sum, place(4f), place(5f), 0);
        solver.rule(2, sum, solver.node(0, Float.floatToIntBits(4.5f), 0));
        DUE.is("solve", solver.solve(5000), 1);
        DUE.span("nor does what was solved", solver, sum, place(4f), place(5f), 0);
        DUE.span("nor does what was solved", solver, twice, place(8f), place(10f), 0);
        for (int kind : OF_CORNERS) {
            solver.range(0, LOWEST, HIGHEST);
            solver.range(3, LOWEST, HIGHEST);
            DUE.all("all ranges, kind " + kind, solver, solver.node(kind, 0, 3));
        }
    }

    /** VARIABLES as NODES 0 to 3, then a NODE of each kind over VARIABLE v and the one behind it. */
    private static FloatSolver withAllKinds(int v) {
        FloatSolver solver = Solvers.withVariables();
        for (int kind = 2; kind < 16; kind++) {
            solver.node(kind, v, (v + 1) % 4);
        }
        solver.range(v, place(2.5f), place(3.5f));
        solver.range((v + 1) % 4, place(4.5f), place(5.5f));
        return solver;
    }

    private static void compareSpans(String what, FloatSolver solver, FloatSolver neverAsked) {
        for (int node = 0; node < 18; node++) {
            for (int which = 0; which < 4; which++) {
                DUE.is(what + ", node " + node, solver.span(node, which), neverAsked.span(node, which));
            }
        }
    }

    private static void rangesAsTheyAre() {
        DUE.by("in the BOX of all RANGES: as they are by now, whatever was asked or solved before");
        for (int v = 0; v < 4; v++) {
            for (int changed = 0; changed < 4; changed++) {
                FloatSolver solver = withAllKinds(v);
                compareSpans("at first", solver, withAllKinds(v));
                solver.range(changed, place(6.5f), place(7.5f));
                FloatSolver neverAsked = withAllKinds(v);
                neverAsked.range(changed, place(6.5f), place(7.5f));
                compareSpans("variable " + changed + " has another range", solver, neverAsked);
                solver.rule(4, 16, 0);
                solver.solve(50);
                compareSpans("after solve", solver, neverAsked);
            }
        }
        FloatSolver early = new FloatSolver();
        DUE.is("solve() ahead of the first node", early.solve(1), 1);
        early.node(0, 5, 0);
        early.node(6, 0, 0);
        DUE.span("the first node", early, 0, 5, 5, 0);
        DUE.span("the next one", early, 1, -6, -6, 0);
    }

    /** Digits for kinds 0 to 5 in their order, with x, y NONE perhaps as told. */
    private static void dueJudge(int[] x, boolean xNone, int[] y, boolean yNone, String want) {
        FloatSolver solver = Solvers.withVariables();
        int a = node(solver, 0, x, xNone);
        int b = node(solver, 1, y, yNone);
        String of = told(0, x, y).substring(7) + (xNone ? ", a none" : "") + (yNone ? ", b none" : "");
        for (int kind = 0; kind < 6; kind++) {
            solver.rule(kind, a, b);
            DUE.is("kind " + kind + of, solver.judge(kind), want.charAt(kind) - '0');
        }
    }

    private static void dueJudge(int[] x, int[] y, String want) {
        dueJudge(x, false, y, false, want);
    }

    private static void rulesInBoxes() {
        DUE.by("kind 0: 0 if .. a >= B");
        dueJudge(span(9, 12), span(5, 9), "022201");
        dueJudge(span(8, 12), span(5, 9), "222201");
        dueJudge(span(10, 12), span(5, 9), "000101");
        dueJudge(span(0, 12), span(-9, -1), "022201");
        dueJudge(span(-1, 12), span(-9, 0), "022201");
        DUE.by("kind 0: 1 if .. A < b");
        dueJudge(span(1, 4), span(5, 9), "110101");
        dueJudge(span(1, 5), span(5, 9), "212201");
        dueJudge(span(-9, -1), span(0, 9), "212201");
        dueJudge(span(-9, -2), span(-1, 9), "110101");
        DUE.by("1: 0 likewise with a > B");
        dueJudge(span(9, 9), span(5, 9), "022201");
        dueJudge(span(10, 10), span(9, 9), "000101");
        dueJudge(span(0, 9), span(-9, -1), "022201");
        dueJudge(span(1, 9), span(-9, -1), "000101");
        DUE.by("1: .. 1 with A <= b");
        dueJudge(span(5, 5), span(5, 9), "212201");
        dueJudge(span(5, 6), span(5, 9), "222201");
        dueJudge(span(-9, 0), span(-1, 9), "212201");
        dueJudge(span(-9, 1), span(-1, 9), "222201");
        DUE.by("2: 0 if .. A < b, or B < a");
        dueJudge(span(1, 4), span(5, 9), "110101");
        dueJudge(span(5, 9), span(1, 4), "000101");
        dueJudge(span(1, 5), span(5, 9), "212201");
        dueJudge(span(5, 9), span(1, 5), "022201");
        dueJudge(span(-9, -1), span(0, 9), "212201");
        dueJudge(span(0, 9), span(-9, -1), "022201");
        DUE.by("2: .. 1 if .. a == A, b == B, a == b");
        dueJudge(span(5, 5), span(5, 5), "011001");
        dueJudge(span(5, 5), span(5, 6), "212201");
        dueJudge(span(5, 6), span(5, 5), "022201");
        dueJudge(span(5, 6), span(5, 6), "222201");
        dueJudge(span(-1, -1), span(0, 0), "011001");
        dueJudge(span(-1, 0), span(0, 0), "011001");
        dueJudge(span(0, 0), span(-1, 0), "011001");
        dueJudge(span(-1, 0), span(-1, 0), "011001");
        dueJudge(span(LOWEST, LOWEST), span(LOWEST, LOWEST), "011001");
        DUE.by("3: 1 where 2 has 0, 0 where 2 has 1.");
        dueJudge(span(4, 4), span(5, 5), "110101");
        dueJudge(span(5, 5), span(5, 5), "011001");
        dueJudge(span(4, 5), span(5, 5), "212201");
    }

    private static void rulesInBoxesWithNone() {
        boolean[][] perhaps = {{true, false}, {false, true}, {true, true}};
        DUE.by("1 if none may be NONE and ..");
        for (boolean[] none : perhaps) {
            String ends = none[0] ? "22" : "01";
            dueJudge(span(1, 4), none[0], span(5, 9), none[1], "2201" + ends);
            dueJudge(span(1, 5), none[0], span(5, 9), none[1], "2222" + ends);
            dueJudge(span(5, 5), none[0], span(5, 5), none[1], "0222" + ends);
            dueJudge(span(-1, -1), none[0], span(0, 0), none[1], "0222" + ends);
        }
        DUE.by("0 if .. a >= B, a > B, A < b, B < a: NONE or not");
        for (boolean[] none : perhaps) {
            String ends = none[0] ? "22" : "01";
            dueJudge(span(9, 12), none[0], span(5, 9), none[1], "0222" + ends);
            dueJudge(span(10, 12), none[0], span(5, 9), none[1], "0001" + ends);
        }
        DUE.by("4: 1 if a has no numbers; 0 if it may not be NONE. 5: 0 and 1 turned.");
        dueJudge(span(5, 9), true, span(5, 9), false, "222222");
        dueJudge(span(5, 9), false, span(5, 9), true, "222201");
        DUE.by("0 if one has no numbers (3: 1; 4: 1 if a has no numbers)");
        FloatSolver solver = Solvers.withVariables();
        int none = solver.node(0, NONE, 0);
        int orNone = Solvers.orNone(solver, 0);
        dueOfNone(solver, none, 0, "000110");
        dueOfNone(solver, 0, none, "000101");
        dueOfNone(solver, none, none, "000110");
        dueOfNone(solver, none, orNone, "000110");
        dueOfNone(solver, orNone, none, "000122");
    }

    private static void dueOfNone(FloatSolver solver, int a, int b, String want) {
        solver.noRules();
        for (int kind = 0; kind < 6; kind++) {
            solver.rule(kind, a, b);
            DUE.is("kind " + kind + " of nodes " + a + ", " + b, solver.judge(kind), want.charAt(kind) - '0');
        }
    }

    private static void ruleInThatBox() {
        DUE.by("A RULE in that BOX: 1, 0, 2.");
        FloatSolver solver = Solvers.withVariables();
        solver.rule(0, 1, 2);
        DUE.is("all ranges", solver.judge(0), 2);
        solver.range(1, 5, 6);
        solver.range(2, 7, 8);
        DUE.is("below", solver.judge(0), 1);
        solver.set(1, 100);
        DUE.is("values do not matter", solver.judge(0), 1);
        DUE.is("but to holds()", solver.holds(0), 0);
        solver.range(2, 4, 5);
        DUE.is("above", solver.judge(0), 0);
        solver.range(2, 4, 6);
        DUE.is("perhaps", solver.judge(0), 2);
        DUE.is("solve", solver.solve(5000), 1);
        DUE.is("nor does what was solved", solver.judge(0), 2);
    }

    public static void main(String[] args) {
        constantsAndVariables();
        withoutNumbers();
        bothEnds();
        bothEndsOrNone();
        roots();
        lesserAndGreater();
        fourEnds();
        fourEndsWithNone();
        productsOfZero();
        quotientsByZero();
        rests();
        boxOfAllRanges();
        rangesAsTheyAre();
        rulesInBoxes();
        rulesInBoxesWithNone();
        ruleInThatBox();
        DUE.end();
    }
}
