import java.util.Random;

/** Promises 2, 6, 9, 10: VALUES and RULES are the machine's own, for edges and for many FLOATS by chance. */
public final class ArithmeticTest {
    private static final Due DUE = new Due("ArithmeticTest");
    private static final int[] EDGES = {
        0, 1, 2, 3, 0x7fffff, 0x800000, 0x800001, 0xffffff, 0x1000000, 0x1fffffff, 0x20000000, 0x20000001,
        0x33800000, 0x33800001, 0x34000000, 0x3effffff, 0x3f000000, 0x3f000001, 0x3f7fffff, 0x3f800000,
        0x3f800001, 0x3fbfffff, 0x3fc00000, 0x3fc00001, 0x40000000, 0x40200000, 0x40400000, 0x40600000,
        0x41200000, 0x4affffff, 0x4b000000, 0x4b000001, 0x4b7fffff, 0x4b800000, 0x4effffff, 0x4f000000,
        0x4f000001, 0x5f000000, 0x7e7fffff, 0x7e800000, 0x7effffff, 0x7f000000, 0x7f7ffffe, 0x7f7fffff,
        0x7f800000, 0x7f800001, 0x7fc00000, 0x7fffffff};

    /** An object is good for 512 calls: 22 to begin with, and 22 for each pair of numbers. */
    private static final int PAIRS = 22;

    private FloatSolver solver;
    private int pairs = PAIRS;

    private ArithmeticTest() {
    }

    private void begin() {
        solver = new FloatSolver();
        pairs = 0;
        solver.node(1, 0, 0);
        solver.node(1, 1, 0);
        for (int kind = 2; kind < 16; kind++) {
            solver.node(kind, 0, 1);
        }
        for (int kind = 0; kind < 6; kind++) {
            solver.rule(kind, 0, 1);
        }
    }

    private void compareAll(int x, int y) {
        if (pairs == PAIRS) {
            begin();
        }
        pairs++;
        String of = Integer.toHexString(x) + ", " + Integer.toHexString(y);
        DUE.is("set", solver.set(0, Machine.place(x)), 1);
        DUE.is("set", solver.set(1, Machine.place(y)), 1);
        for (int kind = 2; kind < 16; kind++) {
            DUE.is("kind " + kind + " of " + of, solver.value(kind), Machine.apply(kind, x, y));
        }
        for (int kind = 0; kind < 6; kind++) {
            boolean want = Machine.compare(kind, Float.intBitsToFloat(x), Float.intBitsToFloat(y));
            DUE.is("rule of kind " + kind + " of " + of, solver.holds(kind), want ? 1 : 0);
        }
    }

    /** Constants, unlike VARIABLES, may be NONE. */
    private static void compareConstants(int x, int y) {
        String of = Integer.toHexString(x) + ", " + Integer.toHexString(y);
        FloatSolver constants = new FloatSolver();
        constants.node(0, x, 77);
        constants.node(0, y, -77);
        DUE.is("constant " + of, constants.value(0), Float.floatToIntBits(Float.intBitsToFloat(x)));
        for (int kind = 2; kind < 16; kind++) {
            DUE.is("node", constants.node(kind, 0, 1), kind);
            DUE.is("kind " + kind + " of constants " + of, constants.value(kind), Machine.apply(kind, x, y));
        }
        for (int kind = 0; kind < 6; kind++) {
            boolean want = Machine.compare(kind, Float.intBitsToFloat(x), Float.intBitsToFloat(y));
            DUE.is("rule", constants.rule(kind, 0, 1), kind);
            DUE.is("rule of kind " + kind + " of constants " + of, constants.holds(kind), want ? 1 : 0);
        }
    }

    private void compareEdges() {
        for (int x : EDGES) {
            for (int y : EDGES) {
                for (int signs = 0; signs < 4; signs++) {
                    int signedX = x | (signs & 1) << 31;
                    int signedY = y | (signs & 2) << 30;
                    compareConstants(signedX, signedY);
                    if (!Machine.isNone(x) && !Machine.isNone(y)) {
                        compareAll(signedX, signedY);
                    }
                }
            }
        }
    }

    private static int anyNumber(Random random) {
        int bits = random.nextInt();
        while (Machine.isNone(bits)) {
            bits = random.nextInt();
        }
        return bits;
    }

    /** Like one another in size, so that sums cancel and quotients are near 1. */
    private static int numberNear(Random random, int x) {
        int bits = x + (random.nextInt(9) - 4 << 23) + (random.nextInt(2001) - 1000 >> random.nextInt(10));
        return Machine.isNone(bits) ? x : bits ^ (random.nextInt(2) << 31);
    }

    private static int fewBits(Random random) {
        float number = (random.nextInt(4001) - 2000) / (float) (1 << random.nextInt(5));
        return Float.floatToIntBits(number);
    }

    private static int denormal(Random random) {
        return (random.nextInt(0x1800000) >> random.nextInt(24)) | (random.nextInt(2) << 31);
    }

    private void compareByChance(Random random, int rounds) {
        for (int i = 0; i < rounds; i++) {
            int x = anyNumber(random);
            compareAll(x, anyNumber(random));
            compareAll(x, numberNear(random, x));
            compareAll(fewBits(random), fewBits(random));
            compareAll(denormal(random), denormal(random));
            compareAll(x, denormal(random));
        }
    }

    public static void main(String[] args) {
        ArithmeticTest test = new ArithmeticTest();
        test.compareEdges();
        test.compareByChance(new Random(7), args.length > 0 ? Integer.parseInt(args[0]) : 60000);
        DUE.end();
    }
}
