/** One method for each promise of the document: ordinary inputs, the edges that it names, wrong inputs. */
public final class PromisesTest {
    private static final Due DUE = new Due("PromisesTest");
    private static final long NOTHING = Long.MIN_VALUE;
    private static final int LOWEST = -2139095041;
    private static final int HIGHEST = 2139095040;
    private static final int NONE = 0x7fc00000;
    private static final int INFINITY = 0x7f800000;
    private static final int ONE = 0x3f800000;
    private static final int[] BAD_VARIABLES = {-1, 4, Integer.MIN_VALUE, Integer.MAX_VALUE};
    private static final int[] ALL_KINDS_BUT_LEAVES = {2, 3, 4, 5, 6, 7, 8, 9, 10, 11, 12, 13, 14, 15};

    private PromisesTest() {
    }

    private static int bits(float number) {
        return Float.floatToIntBits(number);
    }

    private static int place(float number) {
        return Machine.placeOf(number);
    }

    private static void promise1NewObject() {
        FloatSolver solver = new FloatSolver();
        DUE.is("1: NOTHING", FloatSolver.NOTHING, NOTHING);
        DUE.is("1: value(0)", solver.value(0), NOTHING);
        DUE.is("1: span(0, 0)", solver.span(0, 0), NOTHING);
        DUE.is("1: holds(0)", solver.holds(0), -1);
        DUE.is("1: judge(0)", solver.judge(0), -1);
        DUE.is("1: noRules()", solver.noRules(), 0);
        for (int v = 0; v < 4; v++) {
            DUE.is("1: width", solver.width(v, 1), 4278190082L);
        }
        for (int what = -1; what < 8; what++) {
            DUE.is("1: solved(" + what + ")", solver.solved(what), NOTHING);
        }
        DUE.is("1: node", solver.node(1, 3, 0), 0);
        DUE.is("1: value of a variable", solver.value(0), 0);
    }

    private static void promise2Node() {
        FloatSolver solver = new FloatSolver();
        for (int kind : ALL_KINDS_BUT_LEAVES) {
            DUE.is("2: kind " + kind + " without nodes", solver.node(kind, 0, 0), -1);
        }
        for (int kind : new int[] {-1, 16, Integer.MIN_VALUE, Integer.MAX_VALUE}) {
            DUE.is("2: kind " + kind, solver.node(kind, 0, 0), -2);
            DUE.is("2: kind " + kind, solver.node(kind, -5, 99), -2);
        }
        for (int v : BAD_VARIABLES) {
            DUE.is("2: variable " + v, solver.node(1, v, 0), -1);
        }
        DUE.is("2: a constant may have any bits", solver.node(0, Integer.MIN_VALUE, 99), 0);
        DUE.is("2: a variable", solver.node(1, 3, -1), 1);
        int count = 2;
        for (int kind : ALL_KINDS_BUT_LEAVES) {
            DUE.is("2: x is the node itself", solver.node(kind, count, 0), -1);
            DUE.is("2: x below 0", solver.node(kind, -1, 0), -1);
            if (Machine.takesTwo(kind)) {
                DUE.is("2: y is the node itself", solver.node(kind, 0, count), -1);
                DUE.is("2: y below 0", solver.node(kind, 0, -1), -1);
                DUE.is("2: y far above", solver.node(kind, 0, Integer.MAX_VALUE), -1);
            }
            int y = Machine.takesTwo(kind) ? 1 : 99;
            DUE.is("2: kind " + kind, solver.node(kind, 0, y), count);
            count++;
        }
        while (count < 40) {
            DUE.is("2: more", solver.node(6, count - 1, 0), count);
            count++;
        }
        DUE.is("2: no room", solver.node(0, 0, 0), -4);
        DUE.is("2: no room", solver.node(2, 39, 39), -4);
        DUE.is("2: -1 is ahead of -4", solver.node(2, 0, 40), -1);
        DUE.is("2: -2 is ahead of -4", solver.node(16, 0, 0), -2);
        DUE.is("2: the last one", solver.value(39), solver.value(37));
    }

    private static void promise3Rule() {
        FloatSolver solver = new FloatSolver();
        DUE.is("3: no nodes", solver.rule(0, 0, 0), -1);
        solver.node(1, 0, 0);
        solver.node(1, 1, 0);
        DUE.is("3: kind", solver.rule(-1, 0, 0), -2);
        DUE.is("3: kind", solver.rule(6, 0, 0), -2);
        DUE.is("3: kind", solver.rule(Integer.MIN_VALUE, 0, 0), -2);
        DUE.is("3: -1 is ahead of -2", solver.rule(6, 2, 0), -1);
        DUE.is("3: a", solver.rule(0, 2, 0), -1);
        DUE.is("3: a below 0", solver.rule(4, -1, 0), -1);
        DUE.is("3: a", solver.rule(5, 2, 0), -1);
        for (int kind = 0; kind < 4; kind++) {
            DUE.is("3: b", solver.rule(kind, 0, 2), -1);
            DUE.is("3: b below 0", solver.rule(kind, 0, -1), -1);
        }
        for (int i = 0; i < 12; i++) {
            int kind = i % 6;
            DUE.is("3: more", solver.rule(kind, i % 2, kind >= 4 ? -99 : 1), i);
        }
        DUE.is("3: no room", solver.rule(0, 0, 0), -4);
        DUE.is("3: -1 is ahead of -4", solver.rule(0, 0, 2), -1);
        DUE.is("3: -2 is ahead of -4", solver.rule(6, 0, 0), -2);
        DUE.is("3: the last one", solver.judge(11), 1);
        DUE.is("3: behind the last one", solver.judge(12), -1);
    }

    private static void promise4NoRules() {
        FloatSolver solver = Solvers.withVariables();
        DUE.is("4: none", solver.noRules(), 0);
        solver.rule(0, 0, 0);
        solver.rule(9, 0, 0);
        solver.rule(2, 0, 1);
        DUE.is("4: two", solver.noRules(), 2);
        DUE.is("4: gone", solver.holds(0), -1);
        DUE.is("4: gone", solver.judge(0), -1);
        DUE.is("4: the nodes stay", solver.value(3), 0);
        DUE.is("4: solve() has none to hold", solver.solve(1), 1);
        for (int i = 0; i < 12; i++) {
            DUE.is("4: numbers from 0 on", solver.rule(3, 0, 1), i);
        }
        DUE.is("4: twelve", solver.noRules(), 12);
        DUE.is("4: none again", solver.noRules(), 0);
    }

    private static void promise5Range() {
        FloatSolver solver = Solvers.withVariables();
        for (int v : BAD_VARIABLES) {
            DUE.is("5: variable " + v, solver.range(v, 0, 0), -1);
            DUE.is("5: -1 is ahead of -2", solver.range(v, 1, 0), -1);
        }
        DUE.is("5: low above high", solver.range(0, 1, 0), -2);
        DUE.is("5: low is no place", solver.range(0, LOWEST - 1, 0), -2);
        DUE.is("5: high is no place", solver.range(0, 0, HIGHEST + 1), -2);
        DUE.is("5: both are none", solver.range(0, Integer.MIN_VALUE, Integer.MAX_VALUE), -2);
        DUE.is("5: refusals change nothing", solver.width(0, 1), 4278190082L);
        DUE.is("5: one place", solver.range(0, -1, -1), 1);
        DUE.span("5: one place", solver, 0, -1, -1, 0);
        DUE.is("5: all places", solver.range(1, LOWEST, HIGHEST), 1);
        DUE.is("5: others", solver.range(3, -7, 9), 1);
        DUE.span("5: others", solver, 3, -7, 9, 0);
        DUE.span("5: those not told", solver, 2, LOWEST, HIGHEST, 0);
        DUE.is("5: a value stays, outside too", solver.value(0), 0);
        DUE.is("5: again wide", solver.range(0, -2, 5), 1);
        DUE.span("5: again wide", solver, 0, -2, 5, 0);
    }

    private static void promise6Set() {
        FloatSolver solver = Solvers.withVariables();
        for (int v : BAD_VARIABLES) {
            DUE.is("6: variable " + v, solver.set(v, 0), -1);
            DUE.is("6: -1 is ahead of -2", solver.set(v, HIGHEST + 1), -1);
        }
        DUE.is("6: below", solver.set(0, LOWEST - 1), -2);
        DUE.is("6: above", solver.set(0, HIGHEST + 1), -2);
        DUE.is("6: refusals change nothing", solver.value(0), 0);
        DUE.is("6: minus zero", solver.set(0, -1), 1);
        DUE.is("6: minus infinity", solver.set(1, LOWEST), 1);
        DUE.is("6: infinity", solver.set(3, HIGHEST), 1);
        DUE.is("6: minus zero", solver.value(0), Integer.MIN_VALUE);
        DUE.is("6: minus infinity", solver.value(1), 0xff800000);
        DUE.is("6: not told", solver.value(2), 0);
        DUE.is("6: infinity", solver.value(3), INFINITY);
        solver.range(0, 5, 6);
        DUE.is("6: outside its range", solver.set(0, 4), 1);
        DUE.is("6: outside its range", solver.value(0), 4);
        DUE.span("6: the range stays", solver, 0, 5, 6, 0);
    }

    private static void promise7Place() {
        FloatSolver solver = new FloatSolver();
        DUE.is("7: 0", solver.place(0), 0);
        DUE.is("7: minus zero", solver.place(Integer.MIN_VALUE), -1);
        DUE.is("7: the least above 0", solver.place(1), 1);
        DUE.is("7: the greatest below 0", solver.place(0x80000001), -2);
        DUE.is("7: one", solver.place(ONE), ONE);
        DUE.is("7: minus one", solver.place(0xbf800000), -1 - ONE);
        DUE.is("7: infinity", solver.place(INFINITY), HIGHEST);
        DUE.is("7: minus infinity", solver.place(0xff800000), LOWEST);
        for (int none : new int[] {NONE, 0x7f800001, Integer.MAX_VALUE, 0xff800001, 0xffc00000, -1}) {
            DUE.is("7: no number", solver.place(none), NOTHING);
        }
    }

    private static void promise8Bits() {
        FloatSolver solver = new FloatSolver();
        DUE.is("8: 0", solver.bits(0), 0);
        DUE.is("8: minus zero", solver.bits(-1), Integer.MIN_VALUE);
        DUE.is("8: the greatest below 0", solver.bits(-2), 0x80000001);
        DUE.is("8: one", solver.bits(ONE), ONE);
        DUE.is("8: infinity", solver.bits(HIGHEST), INFINITY);
        DUE.is("8: minus infinity", solver.bits(LOWEST), 0xff800000);
        for (int none : new int[] {HIGHEST + 1, LOWEST - 1, Integer.MIN_VALUE, Integer.MAX_VALUE}) {
            DUE.is("8: no place", solver.bits(none), NOTHING);
        }
    }

    private static void dueValue(int kind, float x, float y, float want) {
        FloatSolver solver = new FloatSolver();
        Solvers.constant(solver, x);
        Solvers.constant(solver, y);
        DUE.is("9: kind " + kind + " of " + x + ", " + y, solver.value(solver.node(kind, 0, 1)), bits(want));
    }

    private static void promise9Value() {
        float none = Float.NaN;
        float infinity = Float.POSITIVE_INFINITY;
        FloatSolver solver = Solvers.withVariables();
        DUE.is("9: no such node", solver.value(-1), NOTHING);
        DUE.is("9: no such node", solver.value(4), NOTHING);
        DUE.is("9: no such node", solver.value(Integer.MAX_VALUE), NOTHING);
        DUE.is("9: any that is no number", solver.value(solver.node(0, -1, 0)), NONE);
        dueValue(2, 1f, 0x1p-24f, 1f);
        dueValue(2, 1f, 0x1.8p-24f, 0x1.000002p0f);
        dueValue(2, 0x1.000002p0f, 0x1p-24f, 0x1.000004p0f);
        dueValue(2, -0f, -0f, -0f);
        dueValue(2, 5f, -5f, 0f);
        dueValue(2, infinity, -infinity, none);
        dueValue(2, Float.MAX_VALUE, Float.MAX_VALUE, infinity);
        dueValue(3, -0f, 0f, -0f);
        dueValue(3, infinity, infinity, none);
        dueValue(3, Float.MIN_NORMAL, Float.MIN_VALUE, 0x0.fffffep-126f);
        dueValue(4, infinity, -0f, none);
        dueValue(4, -0f, 3f, -0f);
        dueValue(4, Float.MIN_VALUE, 0.5f, 0f);
        dueValue(4, Float.MIN_VALUE, 0x1.8p-1f, Float.MIN_VALUE);
        dueValue(5, 1f, 3f, 1f / 3f);
        dueValue(5, 0f, -0f, none);
        dueValue(5, 1f, -0f, -infinity);
        dueValue(5, infinity, infinity, none);
        dueValue(6, 0f, 0f, -0f);
        dueValue(6, none, 0f, none);
        dueValue(7, -0f, 0f, 0f);
        dueValue(8, 0f, -0f, -0f);
        dueValue(8, none, 1f, none);
        dueValue(8, 1f, none, none);
        dueValue(9, -0f, 0f, 0f);
        dueValue(9, -infinity, none, none);
        dueValue(10, -0.25f, 0f, -1f);
        dueValue(10, -0f, 0f, -0f);
        dueValue(11, -0.25f, 0f, -0f);
        dueValue(11, 0x1.fffffep22f, 0f, 0x1p23f);
        dueValue(12, 0.5f, 0f, 0f);
        dueValue(12, -1.5f, 0f, -2f);
        dueValue(12, 2.5f, 0f, 2f);
        dueValue(12, -0.5f, 0f, -0f);
        dueValue(13, -0.75f, 0f, 0f);
        dueValue(13, -1.75f, 0f, -1f);
        dueValue(13, 3e9f, 0f, 0x1p31f);
        dueValue(13, -infinity, 0f, -0x1p31f);
        dueValue(13, none, 0f, 0f);
        dueValue(14, -6f, 4f, -2f);
        dueValue(14, -8f, 4f, -0f);
        dueValue(14, 3f, -infinity, 3f);
        dueValue(14, 3f, 0f, none);
        dueValue(14, infinity, 3f, none);
        dueValue(14, Float.MAX_VALUE, Float.MIN_VALUE * 3, Float.MAX_VALUE % (Float.MIN_VALUE * 3));
        dueValue(15, 2f, 0f, 0x1.6a09e6p0f);
        dueValue(15, -0f, 0f, -0f);
        dueValue(15, -Float.MIN_VALUE, 0f, none);
        dueValue(15, Float.MIN_VALUE, 0f, (float) Math.sqrt(Float.MIN_VALUE));
        dueValue(15, infinity, 0f, infinity);
    }

    private static void dueHolds(float a, float b, String want) {
        FloatSolver solver = new FloatSolver();
        Solvers.constant(solver, a);
        Solvers.constant(solver, b);
        for (int kind = 0; kind < 6; kind++) {
            int rule = solver.rule(kind, 0, 1);
            DUE.is("10: kind " + kind + " of " + a + ", " + b, solver.holds(rule), want.charAt(kind) - '0');
        }
    }

    private static void promise10Holds() {
        FloatSolver solver = Solvers.withVariables();
        solver.rule(0, 0, 1);
        DUE.is("10: no such rule", solver.holds(-1), -1);
        DUE.is("10: no such rule", solver.holds(1), -1);
        DUE.is("10: at first", solver.holds(0), 0);
        solver.set(1, 1);
        DUE.is("10: as variables are", solver.holds(0), 1);
        solver.set(0, 1);
        DUE.is("10: as variables are", solver.holds(0), 0);
        dueHolds(1f, 2f, "110101");
        dueHolds(2f, 1f, "000101");
        dueHolds(-2f, -2f, "011001");
        dueHolds(-0f, 0f, "011001");
        dueHolds(0f, -0f, "011001");
        dueHolds(Float.NaN, 1f, "000110");
        dueHolds(1f, Float.NaN, "000101");
        dueHolds(Float.NaN, Float.NaN, "000110");
        dueHolds(Float.NEGATIVE_INFINITY, Float.POSITIVE_INFINITY, "110101");
    }

    private static void promise11SpanOfOne() {
        FloatSolver solver = Solvers.withVariables();
        int negative = solver.node(6, 0, 0);
        int size = solver.node(7, 0, 0);
        int down = solver.node(10, 0, 0);
        int up = solver.node(11, 0, 0);
        int nearest = solver.node(12, 0, 0);
        int asInt = solver.node(13, 0, 0);
        int root = solver.node(15, 0, 0);
        DUE.is("11: no such node", solver.span(-1, 0), NOTHING);
        DUE.is("11: no such node", solver.span(99, 0), NOTHING);
        DUE.is("11: no such thing", solver.span(0, -1), NOTHING);
        DUE.is("11: no such thing", solver.span(0, 4), NOTHING);
        solver.range(0, place(-2.5f), place(1.25f));
        DUE.span("11: -x", solver, negative, place(-1.25f), place(2.5f), 0);
        DUE.span("11: x without sign", solver, size, 0, place(2.5f), 0);
        DUE.span("11: down", solver, down, place(-3f), place(1f), 0);
        DUE.span("11: up", solver, up, place(-2f), place(2f), 0);
        DUE.span("11: nearest", solver, nearest, place(-2f), place(1f), 0);
        DUE.span("11: as an int", solver, asInt, place(-2f), place(1f), 0);
        DUE.all("11: root of one below 0", solver, root);
        solver.range(0, -1, place(4f));
        DUE.span("11: root from minus zero on", solver, root, -1, place(2f), 0);
        solver.range(0, place(-3f), -1);
        DUE.span("11: x without sign, below 0", solver, size, 0, place(3f), 0);
        solver.range(0, -2, -2);
        DUE.all("11: root of one place below minus zero", solver, root);
        solver.range(0, place(2f), place(9f));
        DUE.span("11: x without sign, above 0", solver, size, place(2f), place(9f), 0);
        solver.range(0, place(0.25f), place(0.5f));
        DUE.span("11: up to one value", solver, up, place(1f), place(1f), 0);
    }

    private static void promise11SpanWithNone() {
        FloatSolver solver = Solvers.withVariables();
        int none = solver.node(0, -1, 0);
        DUE.onlyNone("11: none", solver, none);
        for (int kind : ALL_KINDS_BUT_LEAVES) {
            int node = solver.node(kind, none, 0);
            if (kind == 13) {
                DUE.span("11: none as an int", solver, node, 0, 0, 0);
            } else {
                DUE.onlyNone("11: kind " + kind + " of none", solver, node);
            }
            if (Machine.takesTwo(kind)) {
                DUE.onlyNone("11: kind " + kind + " by none", solver, solver.node(kind, 0, none));
            }
        }
        int all = solver.node(15, 1, 0);
        solver.range(0, place(2f), place(3f));
        DUE.span("11: the lesser with what may be none", solver, solver.node(8, 0, all), LOWEST, place(3f), 1);
        int greater = solver.node(9, all, 0);
        DUE.span("11: the greater with what may be none", solver, greater, place(2f), HIGHEST, 1);
        DUE.span("11: 0 is among the ints of what may be none", solver, solver.node(13, greater, 0),
            0, place(0x1p31f), 0);
        solver.range(3, place(-3f), place(-2f));
        DUE.span("11: 0 is among the ints of what is below 0 or none", solver,
            solver.node(13, solver.node(8, 3, all), 0), place(-0x1p31f), 0, 0);
        DUE.span("11: sign of what may be none", solver, solver.node(6, greater, 0), LOWEST, place(-2f), 1);
    }

    private static void promise11SpanOfTwo() {
        FloatSolver solver = Solvers.withVariables();
        int sum = solver.node(2, 0, 1);
        int difference = solver.node(3, 0, 1);
        int product = solver.node(4, 0, 1);
        int quotient = solver.node(5, 0, 1);
        int lesser = solver.node(8, 0, 1);
        int greater = solver.node(9, 0, 1);
        int rest = solver.node(14, 0, 1);
        solver.range(0, place(-2f), place(3f));
        solver.range(1, place(4f), place(8f));
        DUE.span("11: sum", solver, sum, place(2f), place(11f), 0);
        DUE.span("11: difference", solver, difference, place(-10f), place(-1f), 0);
        DUE.span("11: product", solver, product, place(-16f), place(24f), 0);
        DUE.span("11: quotient", solver, quotient, place(-0.5f), place(0.75f), 0);
        DUE.span("11: lesser", solver, lesser, place(-2f), place(3f), 0);
        DUE.span("11: greater", solver, greater, place(4f), place(8f), 0);
        DUE.all("11: rest", solver, rest);
        solver.range(1, place(4f), HIGHEST);
        DUE.span("11: sum up to infinity", solver, sum, place(2f), HIGHEST, 0);
        DUE.all("11: 0 by infinity", solver, product);
        DUE.span("11: quotient by infinity", solver, quotient, place(-0.5f), place(0.75f), 0);
        solver.range(0, 1, HIGHEST);
        DUE.span("11: no 0 by infinity", solver, product, place(Float.MIN_VALUE * 4), HIGHEST, 0);
        DUE.all("11: infinity through infinity", solver, quotient);
        DUE.all("11: infinity less infinity", solver, difference);
        solver.range(0, LOWEST, -1);
        DUE.all("11: sum of infinities", solver, sum);
        DUE.all("11: minus zero by infinity", solver, product);
        solver.range(0, LOWEST, -2);
        DUE.span("11: below 0 by infinity", solver, product, LOWEST, place(Float.MIN_VALUE * -4), 0);
        solver.range(0, place(1f), place(2f));
        for (int[] zero : new int[][] {{-1, -1}, {0, 0}, {-1, 5}, {-5, -1}, {0, 5}, {-5, 5}}) {
            solver.range(1, zero[0], zero[1]);
            DUE.all("11: through 0", solver, quotient);
        }
        solver.range(1, 1, 1);
        DUE.span("11: through the least one", solver, quotient, HIGHEST, HIGHEST, 0);
        solver.range(1, LOWEST, LOWEST);
        DUE.span("11: through infinity", solver, quotient, -1, -1, 0);
    }

    private static void promise11SpanOfRest() {
        FloatSolver solver = Solvers.withVariables();
        int rest = solver.node(14, 0, 1);
        solver.range(0, place(7f), place(7f));
        solver.range(1, place(4f), place(4f));
        DUE.span("11: rest at one place", solver, rest, place(3f), place(3f), 0);
        solver.range(1, 0, 0);
        DUE.onlyNone("11: rest that is none", solver, rest);
        solver.range(1, place(4f), place(4f) + 1);
        DUE.all("11: rest by two places", solver, rest);
        int mayBeNone = solver.node(8, solver.node(15, 2, 0), 0);
        int onePlace = solver.node(9, mayBeNone, 0);
        DUE.span("11: one place or none", solver, onePlace, place(7f), place(7f), 1);
        DUE.all("11: rest of one place or none", solver, solver.node(14, onePlace, 0));
        DUE.all("11: rest by one place or none", solver, solver.node(14, 0, onePlace));
    }

    private static void dueJudge(String what, int[] x, int[] y, String want) {
        FloatSolver solver = Solvers.withVariables();
        solver.range(0, x[0], x[1]);
        solver.range(1, y[0], y[1]);
        for (int kind = 0; kind < 6; kind++) {
            solver.rule(kind, 0, 1);
            DUE.is("12: " + what + ", kind " + kind, solver.judge(kind), want.charAt(kind) - '0');
        }
    }

    private static void promise12Judge() {
        FloatSolver solver = Solvers.withVariables();
        solver.rule(0, 0, 1);
        DUE.is("12: no such rule", solver.judge(-1), -1);
        DUE.is("12: no such rule", solver.judge(1), -1);
        dueJudge("below", new int[] {1, 4}, new int[] {5, 9}, "110101");
        dueJudge("up to the same", new int[] {1, 5}, new int[] {5, 9}, "212201");
        dueJudge("from the same on", new int[] {9, 12}, new int[] {5, 9}, "022201");
        dueJudge("above", new int[] {10, 12}, new int[] {5, 9}, "000101");
        dueJudge("through one another", new int[] {1, 7}, new int[] {5, 9}, "222201");
        dueJudge("the same", new int[] {5, 5}, new int[] {5, 5}, "011001");
        dueJudge("minus zero and 0", new int[] {-1, -1}, new int[] {0, 0}, "011001");
        dueJudge("0 and minus zero", new int[] {0, 0}, new int[] {-1, -1}, "011001");
        dueJudge("both zeros", new int[] {-1, 0}, new int[] {-1, 0}, "011001");
        dueJudge("up to minus zero", new int[] {-5, -1}, new int[] {0, 5}, "212201");
        solver.range(0, place(4f), place(9f));
        solver.range(1, place(10f), place(10f));
        int none = solver.node(0, NONE, 0);
        int mayBeNone = solver.node(8, solver.node(15, 2, 0), 0);
        solver.noRules();
        String withNone = "000110";
        String byNone = "000101";
        String perhaps = "220122";
        for (int kind = 0; kind < 6; kind++) {
            solver.rule(kind, none, 0);
            DUE.is("12: none, kind " + kind, solver.judge(0), withNone.charAt(kind) - '0');
            solver.noRules();
            solver.rule(kind, 0, none);
            DUE.is("12: by none, kind " + kind, solver.judge(0), byNone.charAt(kind) - '0');
            solver.noRules();
            solver.rule(kind, mayBeNone, 1);
            DUE.is("12: may be none, kind " + kind, solver.judge(0), perhaps.charAt(kind) - '0');
            solver.noRules();
        }
    }

    private static void promise13And14WithoutHalving() {
        FloatSolver solver = Solvers.withVariables();
        for (int w : new int[] {0, -1, 5001, Integer.MIN_VALUE, Integer.MAX_VALUE}) {
            DUE.is("13: work " + w, solver.solve(w), -2);
            DUE.is("14: none was solved", solver.solved(0), NOTHING);
        }
        DUE.is("13: no rules", solver.solve(5000), 1);
        DUE.solved("14: no rules", solver, 1, 1, 0);
        DUE.solution("14: no rules", solver, LOWEST, LOWEST, LOWEST, LOWEST);
        DUE.is("14: below", solver.solved(-1), NOTHING);
        DUE.is("14: above", solver.solved(7), NOTHING);
        DUE.is("14: far above", solver.solved(Integer.MIN_VALUE), NOTHING);
        solver.range(1, 3, 5);
        DUE.is("14: the latest stays", solver.solved(4), LOWEST);
        DUE.is("13: refused", solver.solve(0), -2);
        DUE.solved("14: refused ones do not count", solver, 1, 1, 0);
        solver.solve(1);
        DUE.solution("14: the latest", solver, LOWEST, 3, LOWEST, LOWEST);
        DUE.is("13: values stay as they were", solver.value(1), 0);
        solver.rule(4, 1, 0);
        DUE.is("13: can not hold", solver.solve(1), 0);
        DUE.solved("14: can not hold", solver, 0, 1, 0);
    }

    private static void promise13And14Halving() {
        FloatSolver solver = Solvers.withVariables();
        int seven = solver.node(0, 7, 0);
        solver.rule(2, 1, seven);
        solver.range(0, 4, 4);
        solver.range(1, 0, 7);
        // 0..7, 0..3, 4..7, 4..5, 6..7, 6, 7
        DUE.is("13: the last place", solver.solve(7), 1);
        DUE.solved("14: the last place", solver, 1, 7, 3);
        DUE.solution("14: the last place", solver, 4, 7, LOWEST, LOWEST);
        DUE.is("13: spent before the last box", solver.solve(6), 2);
        DUE.solved("14: spent before the last box", solver, 2, 6, 3);
        DUE.is("13: spent at once", solver.solve(1), 2);
        DUE.solved("14: spent at once", solver, 2, 1, 1);
        solver.range(1, -3, 6);
        DUE.is("13: none in the first box", solver.solve(1), 0);
        DUE.solved("14: none in the first box", solver, 0, 1, 0);
        solver.noRules();
        solver.rule(1, seven, 1);
        solver.range(1, -8, 9);
        // -8..9: middle 0; 1..9: middle 5; 6..9: middle 7; 6..7: middle 6; 6 given up, 7 holds
        DUE.is("13: the least one", solver.solve(5000), 1);
        DUE.solved("14: the least one", solver, 1, 8, 4);
        DUE.is("14: the least one", solver.solved(4), 7);
        solver.noRules();
        solver.rule(0, 1, 1);
        solver.range(1, -3, 0);
        // -3..0: middle -2, down; -3..-2 and -1..0; -1..0 can not hold, both being the same
        DUE.is("13: less than itself", solver.solve(5000), 0);
        DUE.solved("14: less than itself", solver, 0, 5, 2);
    }

    /** The VARIABLE that is halved is the first one that has more PLACES than one, ruled or not. */
    private static void promise13And14Order() {
        FloatSolver solver = Solvers.withVariables();
        solver.rule(2, 2, solver.node(0, 3, 0));
        solver.range(0, 8, 9);
        solver.range(1, 5, 5);
        solver.range(2, 2, 3);
        solver.range(3, -1, 4);
        // all; 0 at 8; then 2 at 2, 2 at 3
        DUE.is("13: first ones first", solver.solve(5000), 1);
        DUE.solved("14: first ones first", solver, 1, 4, 2);
        DUE.solution("14: first ones first", solver, 8, 5, 3, -1);
        solver.noRules();
        int root = solver.node(15, 0, 0);
        solver.rule(4, root, 0);
        solver.range(0, -2, -1);
        solver.range(2, 2, 2);
        solver.range(3, 6, 6);
        // The SPAN of a root below -1 is ALL even at one PLACE: there its VALUE tells.
        DUE.is("13: true at one place", solver.solve(5000), 1);
        DUE.solved("14: true at one place", solver, 1, 2, 1);
        DUE.solution("14: true at one place", solver, -2, 5, 2, 6);
        solver.noRules();
        solver.rule(5, root, 0);
        DUE.is("13: untrue at one place", solver.solve(5000), 1);
        DUE.solved("14: untrue at one place", solver, 1, 3, 1);
        DUE.solution("14: untrue at one place", solver, -1, 5, 2, 6);
        solver.range(0, -2, -2);
        DUE.is("13: untrue at the only place", solver.solve(5000), 0);
        DUE.solved("14: untrue at the only place", solver, 0, 1, 0);
    }

    private static void promise13And14Deep() {
        FloatSolver solver = Solvers.withVariables();
        int infinity = solver.node(0, INFINITY, 0);
        int none = solver.node(3, infinity, 3);
        for (int v = 0; v < 4; v++) {
            solver.rule(2, v, infinity);
        }
        DUE.is("13: all at their last place", solver.solve(5000), 1);
        DUE.solution("14: all at their last place", solver, HIGHEST, HIGHEST, HIGHEST, HIGHEST);
        DUE.isTrue("14: every variable was halved 31 times or more", solver.solved(2) >= 4 * 31);
        solver.noRules();
        solver.rule(4, none, 0);
        DUE.is("13: three variables that no rule names", solver.solve(5000), 1);
        DUE.solution("14: three variables that no rule names", solver, LOWEST, LOWEST, LOWEST, HIGHEST);
        solver.rule(0, 3, infinity);
        DUE.is("13: spent far down", solver.solve(5000), 2);
        DUE.solved("14: spent far down", solver, 2, 5000, solver.solved(2));
    }

    private static long widthOrThrown(FloatSolver solver, int v, int n) {
        try {
            return solver.width(v, n);
        } catch (ArithmeticException e) {
            return -4444;
        }
    }

    private static void promise15Width() {
        FloatSolver solver = new FloatSolver();
        for (int v : BAD_VARIABLES) {
            DUE.is("15: variable " + v, widthOrThrown(solver, v, 1), NOTHING);
            DUE.is("15: the variable comes first", widthOrThrown(solver, v, 0), NOTHING);
        }
        DUE.is("15: all places", widthOrThrown(solver, 0, 1), 4278190082L);
        DUE.is("15: by -1", widthOrThrown(solver, 0, -1), -4278190082L);
        DUE.is("15: by the least", widthOrThrown(solver, 0, Integer.MIN_VALUE), -1);
        DUE.is("15: by 0", widthOrThrown(solver, 0, 0), -4444);
        solver.range(3, -3, 3);
        DUE.is("15: seven", widthOrThrown(solver, 3, 1), 7);
        DUE.is("15: cut", widthOrThrown(solver, 3, 2), 3);
        DUE.is("15: cut toward 0", widthOrThrown(solver, 3, -2), -3);
        DUE.is("15: cut to 0", widthOrThrown(solver, 3, 8), 0);
        DUE.is("15: by 0", widthOrThrown(solver, 3, 0), -4444);
        DUE.is("15: usable after that", widthOrThrown(solver, 3, 7), 1);
    }

    public static void main(String[] args) {
        promise1NewObject();
        promise2Node();
        promise3Rule();
        promise4NoRules();
        promise5Range();
        promise6Set();
        promise7Place();
        promise8Bits();
        promise9Value();
        promise10Holds();
        promise11SpanOfOne();
        promise11SpanWithNone();
        promise11SpanOfTwo();
        promise11SpanOfRest();
        promise12Judge();
        promise13And14WithoutHalving();
        promise13And14Halving();
        promise13And14Order();
        promise13And14Deep();
        promise15Width();
        DUE.end();
    }
}
