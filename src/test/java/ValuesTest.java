/**
 * Each sentence of the document on the VALUES of NODES and on RULES that are true or not, at the edges
 * that it names. What is due is written out here; ArithmeticTest asks the machine for many more.
 */
public final class ValuesTest {
    private static final Due DUE = new Due("ValuesTest");
    private static final float NONE = Float.NaN;
    private static final float INFINITY = Float.POSITIVE_INFINITY;
    private static final float GREATEST = 0x1.fffffep127f;
    private static final float LEAST = 0x1p-149f;
    private static final float NORMAL = 0x1p-126f;
    private static final int PLUS = 2;
    private static final int LESS = 3;
    private static final int TIMES = 4;
    private static final int THROUGH = 5;
    private static final int NEGATIVE = 6;
    private static final int SIZE = 7;
    private static final int LESSER = 8;
    private static final int GREATER = 9;
    private static final int DOWN = 10;
    private static final int UP = 11;
    private static final int NEAREST = 12;
    private static final int AS_INT = 13;
    private static final int REST = 14;
    private static final int ROOT = 15;

    private ValuesTest() {
    }

    /** As constants, and as VARIABLES where these can have the numbers. */
    private static void due(int kind, float x, float y, float want) {
        FloatSolver solver = new FloatSolver();
        String what = "kind " + kind + " of " + x + ", " + y;
        int wantBits = Float.floatToIntBits(want);
        solver.node(0, Float.floatToIntBits(x), 0);
        solver.node(0, Float.floatToIntBits(y), 0);
        solver.node(kind, 0, 1);
        DUE.is(what, solver.value(2), wantBits);
        if (!Float.isNaN(x) && !Float.isNaN(y)) {
            FloatSolver other = Solvers.withVariables();
            other.set(3, Machine.placeOf(x));
            other.set(1, Machine.placeOf(y));
            other.node(kind, 3, 1);
            DUE.is(what + ", variables", other.value(4), wantBits);
        }
    }

    private static void due(int kind, float x, float want) {
        due(kind, x, 17f, want);
    }

    private static void constantsAndVariables() {
        DUE.by("0 the FLOAT with bits x (any that is no number: NONE)");
        for (int bits : new int[] {0, 0x80000000, 1, 0x80000001, 0x7f7fffff, 0x7f800000, 0xff800000}) {
            FloatSolver solver = new FloatSolver();
            solver.node(0, bits, 0);
            DUE.is("a number", solver.value(0), bits);
        }
        for (int bits : new int[] {0x7f800001, 0x7fc00000, 0x7fffffff, 0xff800001, 0xffc00000, 0xffffffff}) {
            FloatSolver solver = new FloatSolver();
            solver.node(0, bits, 0);
            DUE.is("no number", solver.value(0), 0x7fc00000);
        }
        DUE.by("1 VARIABLE x");
        FloatSolver solver = new FloatSolver();
        solver.node(1, 3, 0);
        solver.node(1, 2, 3);
        solver.node(1, 3, 0);
        solver.set(3, -1);
        solver.set(2, 8);
        DUE.is("3", solver.value(0), 0x80000000);
        DUE.is("2", solver.value(1), 8);
        DUE.is("3 once more", solver.value(2), 0x80000000);
        solver.set(3, 9);
        DUE.is("as it is now", solver.value(0), 9);
    }

    private static void rounding() {
        DUE.by("as the machine has it for floats, to the nearest, even ones first (2 x + y)");
        due(PLUS, 1f, 0x1p-24f, 1f);
        due(PLUS, 1f, 0x1.000002p-24f, 0x1.000002p0f);
        due(PLUS, 0x1.000002p0f, 0x1p-24f, 0x1.000004p0f);
        due(PLUS, 0x1.000002p0f, 0x1.fffffep-25f, 0x1.000002p0f);
        due(PLUS, 1f, -0x1p-25f, 1f);
        due(PLUS, 1f, -0x1.000002p-25f, 0x1.fffffep-1f);
        due(PLUS, 0x1p24f, 1f, 0x1p24f);
        due(PLUS, 0x1.000002p24f, 1f, 0x1.000004p24f);
        due(PLUS, LEAST, LEAST, 2 * LEAST);
        due(PLUS, NORMAL, -LEAST, 0x0.fffffep-126f);
        due(PLUS, 0x0.fffffep-126f, LEAST, NORMAL);
        due(PLUS, 1f, LEAST, 1f);
        due(PLUS, -1f, LEAST, -1f);
        due(PLUS, GREATEST, 0x1.fffffep102f, GREATEST);
        due(PLUS, GREATEST, 0x1p103f, INFINITY);
        due(PLUS, -GREATEST, -GREATEST, -INFINITY);
        DUE.by("to the nearest, even ones first (3 x - y)");
        due(LESS, 1f, -0x1p-24f, 1f);
        due(LESS, 1f, 0x1p-25f, 1f);
        due(LESS, 1f, 0x1.8p-25f, 0x1.fffffep-1f);
        due(LESS, -0x1.000002p0f, 0x1p-24f, -0x1.000004p0f);
        due(LESS, 0x1.000002p0f, 1f, 0x1p-23f);
        due(LESS, -GREATEST, 0x1p103f, -INFINITY);
        DUE.by("to the nearest, even ones first (4 x * y)");
        due(TIMES, 0x1.001p0f, 0x1.001p0f, 0x1.002p0f);
        due(TIMES, 0x1.001p0f, 0x1.003p0f, 0x1.004004p0f);
        due(TIMES, LEAST, 0.5f, 0f);
        due(TIMES, LEAST, -0.5f, -0f);
        due(TIMES, LEAST, 0x1.000002p-1f, LEAST);
        due(TIMES, 3 * LEAST, 0.5f, 2 * LEAST);
        due(TIMES, 5 * LEAST, 0.5f, 2 * LEAST);
        due(TIMES, 0x1.fffffep-126f, 0.5f, NORMAL);
        due(TIMES, LEAST, LEAST, 0f);
        due(TIMES, GREATEST, 0x1.000002p0f, INFINITY);
        due(TIMES, GREATEST, -GREATEST, -INFINITY);
        due(TIMES, 0x1.fffffcp127f, 0x1.000002p0f, INFINITY);
        due(TIMES, 0x1.fffffap127f, 0x1.000002p0f, GREATEST);
        DUE.by("to the nearest, even ones first (5 x / y)");
        due(THROUGH, 1f, 3f, 0x1.555556p-2f);
        due(THROUGH, 2f, 3f, 0x1.555556p-1f);
        due(THROUGH, 1f, 10f, 0x1.99999ap-4f);
        // By very little above or below the half between two neighbours.
        due(THROUGH, 0x1.ad4808p-22f, 0x1.4b3564p-75f, 0x1.4bcd9ap53f);
        due(THROUGH, 0x1.001efp23f, 0x1.003812p23f, 0x1.ffcdc8p-1f);
        due(THROUGH, 0x1.002ba2p23f, 0x1.003adep23f, 0x1.ffe18ep-1f);
        due(THROUGH, LEAST, 2f, 0f);
        due(THROUGH, -LEAST, 2f, -0f);
        due(THROUGH, 3 * LEAST, 2f, 2 * LEAST);
        due(THROUGH, 5 * LEAST, 2f, 2 * LEAST);
        due(THROUGH, GREATEST, 0.5f, INFINITY);
        due(THROUGH, LEAST, GREATEST, 0f);
        due(THROUGH, GREATEST, LEAST, INFINITY);
        due(THROUGH, LEAST, LEAST, 1f);
    }

    private static void infinitiesAndZeros() {
        DUE.by("as the machine has it for floats: NONE, -0 and infinities (2 x + y)");
        due(PLUS, INFINITY, -INFINITY, NONE);
        due(PLUS, -INFINITY, INFINITY, NONE);
        due(PLUS, INFINITY, INFINITY, INFINITY);
        due(PLUS, -GREATEST, INFINITY, INFINITY);
        due(PLUS, -INFINITY, GREATEST, -INFINITY);
        due(PLUS, -0f, -0f, -0f);
        due(PLUS, -0f, 0f, 0f);
        due(PLUS, 0f, -0f, 0f);
        due(PLUS, 5f, -5f, 0f);
        due(PLUS, -LEAST, LEAST, 0f);
        due(PLUS, -0f, LEAST, LEAST);
        due(PLUS, NONE, 1f, NONE);
        due(PLUS, INFINITY, NONE, NONE);
        DUE.by("NONE, -0 and infinities (3 x - y)");
        due(LESS, INFINITY, INFINITY, NONE);
        due(LESS, -INFINITY, -INFINITY, NONE);
        due(LESS, INFINITY, -INFINITY, INFINITY);
        due(LESS, 1f, INFINITY, -INFINITY);
        due(LESS, -0f, 0f, -0f);
        due(LESS, 0f, 0f, 0f);
        due(LESS, -0f, -0f, 0f);
        due(LESS, -5f, -5f, 0f);
        due(LESS, 1f, NONE, NONE);
        DUE.by("NONE, -0 and infinities (4 x * y)");
        due(TIMES, INFINITY, 0f, NONE);
        due(TIMES, -0f, -INFINITY, NONE);
        due(TIMES, INFINITY, -LEAST, -INFINITY);
        due(TIMES, -INFINITY, -INFINITY, INFINITY);
        due(TIMES, -0f, 3f, -0f);
        due(TIMES, -0f, -3f, 0f);
        due(TIMES, NONE, 0f, NONE);
        DUE.by("NONE, -0 and infinities (5 x / y)");
        due(THROUGH, 0f, 0f, NONE);
        due(THROUGH, -0f, 0f, NONE);
        due(THROUGH, INFINITY, -INFINITY, NONE);
        due(THROUGH, 1f, 0f, INFINITY);
        due(THROUGH, 1f, -0f, -INFINITY);
        due(THROUGH, -INFINITY, 0f, -INFINITY);
        due(THROUGH, INFINITY, LEAST, INFINITY);
        due(THROUGH, -1f, INFINITY, -0f);
        due(THROUGH, 0f, -INFINITY, -0f);
        due(THROUGH, 0f, NONE, NONE);
    }

    private static void signs() {
        DUE.by("6 -x");
        due(NEGATIVE, 0f, -0f);
        due(NEGATIVE, -0f, 0f);
        due(NEGATIVE, INFINITY, -INFINITY);
        due(NEGATIVE, -LEAST, LEAST);
        due(NEGATIVE, NONE, NONE);
        DUE.by("7 x without sign");
        due(SIZE, -0f, 0f);
        due(SIZE, 0f, 0f);
        due(SIZE, -INFINITY, INFINITY);
        due(SIZE, -2.5f, 2.5f);
        due(SIZE, 2.5f, 2.5f);
        due(SIZE, NONE, NONE);
    }

    private static void lesserAndGreater() {
        DUE.by("8 the lesser, 9 the greater of x, y");
        due(LESSER, -2f, 1f, -2f);
        due(LESSER, 1f, -2f, -2f);
        due(GREATER, -2f, 1f, 1f);
        due(GREATER, 1f, -2f, 1f);
        due(LESSER, -INFINITY, INFINITY, -INFINITY);
        due(GREATER, -INFINITY, INFINITY, INFINITY);
        due(LESSER, -2f, -3f, -3f);
        due(GREATER, -2f, -3f, -2f);
        DUE.by("(-0 is less than 0; ..)");
        due(LESSER, -0f, 0f, -0f);
        due(LESSER, 0f, -0f, -0f);
        due(GREATER, -0f, 0f, 0f);
        due(GREATER, 0f, -0f, 0f);
        due(GREATER, -0f, -LEAST, -0f);
        DUE.by("(..; NONE with one)");
        due(LESSER, NONE, 1f, NONE);
        due(LESSER, -INFINITY, NONE, NONE);
        due(GREATER, NONE, INFINITY, NONE);
        due(GREATER, 1f, NONE, NONE);
        due(LESSER, NONE, NONE, NONE);
    }

    private static void wholeOnes() {
        DUE.by("10 x rounded down");
        due(DOWN, 1f, 1f);
        due(DOWN, -1f, -1f);
        due(DOWN, 1.75f, 1f);
        due(DOWN, -1.25f, -2f);
        due(DOWN, LEAST, 0f);
        due(DOWN, -LEAST, -1f);
        due(DOWN, -0f, -0f);
        due(DOWN, 0x1.fffffep22f, 0x1.fffffcp22f);
        due(DOWN, -0x1.fffffep22f, -0x1p23f);
        due(DOWN, -3f, -3f);
        due(DOWN, GREATEST, GREATEST);
        due(DOWN, -INFINITY, -INFINITY);
        due(DOWN, NONE, NONE);
        DUE.by("11 up");
        due(UP, 1f, 1f);
        due(UP, -1f, -1f);
        due(UP, 1.25f, 2f);
        due(UP, -1.75f, -1f);
        due(UP, LEAST, 1f);
        due(UP, -0.75f, -0f);
        due(UP, -0f, -0f);
        due(UP, 0f, 0f);
        due(UP, 0x1.fffffep22f, 0x1p23f);
        due(UP, 3f, 3f);
        due(UP, INFINITY, INFINITY);
        due(UP, NONE, NONE);
        DUE.by("12 to the nearest whole one (of two the even one)");
        due(NEAREST, 0.5f, 0f);
        due(NEAREST, 0x1.000002p-1f, 1f);
        due(NEAREST, 1f, 1f);
        due(NEAREST, 1.5f, 2f);
        due(NEAREST, 2.5f, 2f);
        due(NEAREST, -0.5f, -0f);
        due(NEAREST, -1.5f, -2f);
        due(NEAREST, -2.5f, -2f);
        due(NEAREST, 0x1.7ffffep0f, 1f);
        due(NEAREST, 0x1.fffffep22f, 0x1p23f);
        due(NEAREST, 0x1.fffffap22f, 0x1.fffff8p22f);
        due(NEAREST, -0f, -0f);
        due(NEAREST, -INFINITY, -INFINITY);
        due(NEAREST, NONE, NONE);
    }

    private static void asInt() {
        DUE.by("13 x as an int (cut toward 0, ..), as a FLOAT");
        due(AS_INT, 1f, 1f);
        due(AS_INT, -1f, -1f);
        due(AS_INT, 1.75f, 1f);
        due(AS_INT, -1.75f, -1f);
        due(AS_INT, 0.99f, 0f);
        due(AS_INT, -0.99f, 0f);
        due(AS_INT, -0f, 0f);
        due(AS_INT, -LEAST, 0f);
        due(AS_INT, 0x1.fffffep22f, 0x1.fffffcp22f);
        DUE.by("(.., the nearest end beyond, ..)");
        due(AS_INT, 0x1.fffffep30f, 0x1.fffffep30f);
        due(AS_INT, 0x1p31f, 0x1p31f);
        due(AS_INT, 0x1.000002p31f, 0x1p31f);
        due(AS_INT, INFINITY, 0x1p31f);
        due(AS_INT, -0x1p31f, -0x1p31f);
        due(AS_INT, -0x1.000002p31f, -0x1p31f);
        due(AS_INT, -INFINITY, -0x1p31f);
        DUE.by("(.., of NONE 0)");
        due(AS_INT, NONE, 0f);
    }

    private static void rest() {
        DUE.by("14 x % y");
        due(REST, 7f, 4f, 3f);
        due(REST, -7f, 4f, -3f);
        due(REST, 7f, 3f, 1f);
        due(REST, 0x1p-125f, 0x1.8p-126f, 0x1p-127f);
        due(REST, 7f, -4f, 3f);
        due(REST, 5f, 5f, 0f);
        due(REST, -5f, 5f, -0f);
        due(REST, 5f, -5f, 0f);
        due(REST, 8f, 4f, 0f);
        due(REST, -8f, 4f, -0f);
        due(REST, -0f, 4f, -0f);
        due(REST, 3f, INFINITY, 3f);
        due(REST, -3f, -INFINITY, -3f);
        due(REST, 3f, 0f, NONE);
        due(REST, 0f, -0f, NONE);
        due(REST, INFINITY, 3f, NONE);
        due(REST, INFINITY, INFINITY, NONE);
        due(REST, NONE, 3f, NONE);
        due(REST, 3f, NONE, NONE);
        due(REST, 5 * LEAST, 3 * LEAST, 2 * LEAST);
        due(REST, 0x1p127f, 3f, 2f);
        due(REST, 0x1p127f, 7 * LEAST, LEAST);
    }

    private static void root() {
        DUE.by("15 the root of x, to the nearest");
        due(ROOT, 4f, 2f);
        due(ROOT, 2f, 0x1.6a09e6p0f);
        due(ROOT, 3f, 0x1.bb67aep0f);
        due(ROOT, 0x1.4bdf14p10f, 0x1.237a38p5f);
        due(ROOT, 0x1.51b0cp32f, 0x1.26058ep16f);
        due(ROOT, 0x1.fffffep-1f, 0x1.fffffep-1f);
        due(ROOT, 0x1.000002p0f, 1f);
        due(ROOT, 0x1p-148f, 0x1p-74f);
        due(ROOT, LEAST, 0x1.6a09e6p-75f);
        due(ROOT, GREATEST, 0x1.fffffep63f);
        due(ROOT, INFINITY, INFINITY);
        due(ROOT, 0f, 0f);
        DUE.by("(NONE of one below 0)");
        due(ROOT, -LEAST, NONE);
        due(ROOT, -4f, NONE);
        due(ROOT, -INFINITY, NONE);
        due(ROOT, -0f, -0f);
        due(ROOT, NONE, NONE);
    }

    /** For kinds 0 to 5 in their order whether the RULE is true. */
    private static void dueHolds(float a, float b, String want) {
        FloatSolver solver = new FloatSolver();
        Solvers.constant(solver, a);
        Solvers.constant(solver, b);
        for (int kind = 0; kind < 6; kind++) {
            int rule = solver.rule(kind, 0, 1);
            DUE.is("kind " + kind + " of " + a + ", " + b, solver.holds(rule), want.charAt(kind) - '0');
        }
    }

    private static void rules() {
        DUE.by("0 a < b; 1 a <= b; 2 a == b; 3 a != b, by their VALUES as the machine has it");
        dueHolds(1f, 2f, "110101");
        dueHolds(2f, 1f, "000101");
        dueHolds(2f, 2f, "011001");
        dueHolds(-2f, -1f, "110101");
        dueHolds(-1f, -2f, "000101");
        dueHolds(-LEAST, 0f, "110101");
        dueHolds(-LEAST, -0f, "110101");
        dueHolds(0f, LEAST, "110101");
        dueHolds(-INFINITY, -GREATEST, "110101");
        dueHolds(INFINITY, INFINITY, "011001");
        DUE.by("(0 and -0 are the same; ..)");
        dueHolds(0f, -0f, "011001");
        dueHolds(-0f, 0f, "011001");
        dueHolds(-0f, -0f, "011001");
        DUE.by("(..; with NONE all but 3 are untrue); 4 a is NONE; 5 it is not");
        dueHolds(NONE, 1f, "000110");
        dueHolds(1f, NONE, "000101");
        dueHolds(NONE, NONE, "000110");
        dueHolds(NONE, -INFINITY, "000110");
        dueHolds(INFINITY, NONE, "000101");
        DUE.by("Whether a RULE is true, as VARIABLES are: 1, 0.");
        FloatSolver solver = Solvers.withVariables();
        solver.rule(0, 0, 3);
        DUE.is("at first", solver.holds(0), 0);
        solver.range(0, 1, 2);
        solver.range(3, 8, 9);
        DUE.is("not as ranges are", solver.holds(0), 0);
        solver.set(3, 1);
        DUE.is("after set", solver.holds(0), 1);
        solver.set(0, 1);
        DUE.is("after set", solver.holds(0), 0);
        solver.solve(5000);
        DUE.is("not as was solved", solver.holds(0), 0);
    }

    public static void main(String[] args) {
        constantsAndVariables();
        rounding();
        infinitiesAndZeros();
        signs();
        lesserAndGreater();
        wholeOnes();
        asInt();
        rest();
        root();
        rules();
        DUE.end();
    }
}
