import java.util.Random;

/** Promises 1 to 15: runs of calls by chance, every answer compared with what the Model has. */
public final class ModelTest {
    private static final Due DUE = new Due("ModelTest");
    private static final int LAST_CALL = 512;
    /** solve() is asked together with all seven questions of solved(). */
    private static final int CALLS_AT_ONCE = 8;
    private static final int[] EDGE_PLACES = {
        Model.LOWEST, Model.LOWEST + 1, -0x4f000001, -0x4b000001, -0x3f800001, -0x3f000001, -0x800001, -3, -2, -1,
        0, 1, 2, 0x800000, 0x3f000000, 0x3f800000, 0x3fc00000, 0x40000000, 0x40400000, 0x4b000000, 0x4f000000,
        Model.HIGHEST - 1, Model.HIGHEST};

    private static final int[] SOLVED = new int[3];
    private static final long[] DEEPEST = new long[1];

    private final Random random;
    private final String name;
    private final FloatSolver solver = new FloatSolver();
    private final Model model = new Model();
    private int calls = 0;

    private ModelTest(long seed) {
        random = new Random(seed);
        name = "run " + seed + ": ";
    }

    /** One call of the object, with what the Model has for it. */
    private void due(String call, long got, long want) {
        calls++;
        DUE.is(name + call, got, want);
    }

    private int anyPlace() {
        switch (random.nextInt(4)) {
            case 0:
                return EDGE_PLACES[random.nextInt(EDGE_PLACES.length)];
            case 1:
                return Machine.place(Float.floatToIntBits((random.nextInt(81) - 40) / 4f));
            case 2:
                return random.nextInt(9) - 5;
            default:
                return Model.LOWEST + (int) Math.floorMod(random.nextLong(), 2L * Model.HIGHEST + 2);
        }
    }

    private int anyBits() {
        return random.nextInt(12) == 0 ? random.nextInt() | 0x7f800000 : Machine.bits(anyPlace());
    }

    /** Mostly good, now and then just or far outside. */
    private int index(int size) {
        if (random.nextInt(25) == 0) {
            return new int[] {-1, size, size + 1, Integer.MIN_VALUE, Integer.MAX_VALUE}[random.nextInt(5)];
        }
        return size == 0 ? 0 : random.nextInt(size);
    }

    private void addNode() {
        int kind = index(16);
        int x = kind == 0 ? anyBits() : kind == 1 ? index(4) : index(model.nodes.size());
        int y = index(model.nodes.size());
        due("node(" + kind + ", " + x + ", " + y + ")", solver.node(kind, x, y), model.node(kind, x, y));
    }

    private void addRule() {
        int kind = index(6);
        int a = index(model.nodes.size());
        int b = index(model.nodes.size());
        due("rule(" + kind + ", " + a + ", " + b + ")", solver.rule(kind, a, b), model.rule(kind, a, b));
    }

    private void changeRange() {
        int v = index(4);
        int low = anyPlace();
        int high = anyPlace();
        if (random.nextInt(3) == 0) {
            high = (int) Math.min(Model.HIGHEST, (long) low + random.nextInt(1 << random.nextInt(12)));
        } else if (low > high && random.nextInt(8) != 0) {
            int other = low;
            low = high;
            high = other;
        }
        if (random.nextInt(40) == 0) {
            low = Model.LOWEST - 1 - random.nextInt(2);
        }
        if (random.nextInt(40) == 0) {
            high = Model.HIGHEST + 1 + random.nextInt(2);
        }
        due("range(" + v + ", " + low + ", " + high + ")",
            solver.range(v, low, high), model.range(v, low, high));
    }

    private void changeValue() {
        int v = index(4);
        int place = random.nextInt(20) == 0 ? random.nextInt() : anyPlace();
        due("set(" + v + ", " + place + ")", solver.set(v, place), model.set(v, place));
    }

    private void compareValue() {
        int node = index(model.nodes.size());
        due("value(" + node + ")", solver.value(node), model.value(node));
    }

    private void compareSpan() {
        int node = index(model.nodes.size());
        int what = index(4);
        due("span(" + node + ", " + what + ")", solver.span(node, what), model.span(node, what));
    }

    private void compareRule() {
        int rule = index(model.rules.size());
        due("holds(" + rule + ")", solver.holds(rule), model.holds(rule));
        due("judge(" + rule + ")", solver.judge(rule), model.judge(rule));
    }

    private void compareSolve() {
        int w = random.nextInt(20) == 0 ? index(5001) : 1 + random.nextInt(1 << random.nextInt(11));
        int want = model.solve(w);
        due("solve(" + w + ")", solver.solve(w), want);
        if (want >= 0) {
            SOLVED[want]++;
        }
        for (int what = 0; what < 7; what++) {
            compareSolved(what);
        }
    }

    private void compareSolved(int what) {
        due("solved(" + what + ")", solver.solved(what), model.solved(what));
    }

    private void compareWidth() {
        int v = index(4);
        int n = random.nextInt(7) - 3;
        long got = -77;
        boolean thrown = false;
        try {
            got = solver.width(v, n);
        } catch (ArithmeticException e) {
            thrown = true;
        }
        boolean throwing = n == 0 && v >= 0 && v < 4;
        DUE.isTrue(name + "width(" + v + ", " + n + ") throws as it should", thrown == throwing);
        due("width(" + v + ", " + n + ")", got, throwing ? got : model.width(v, n));
    }

    private void comparePlaces() {
        int bits = anyBits();
        int place = random.nextInt(4) == 0 ? random.nextInt() : anyPlace();
        due("place(" + bits + ")", solver.place(bits), model.place(bits));
        due("bits(" + place + ")", solver.bits(place), model.bits(place));
    }

    /** SPANS are there to hold all VALUES: also of the class itself, at a point of the BOX by chance. */
    private void checkSpansHoldValues() {
        int[] places = new int[4];
        for (int v = 0; v < 4; v++) {
            Model.Range range = model.ranges[v];
            long width = (long) range.high() - range.low() + 1;
            places[v] = (int) (range.low() + Math.floorMod(random.nextLong(), width));
        }
        int[] values = model.valuesAt(places);
        Model.Span[] spans = model.spansIn(model.ranges);
        for (int i = 0; i < values.length; i++) {
            DUE.isTrue(name + "the span of node " + i + " holds " + values[i], spans[i].holds(values[i]));
        }
    }

    private void call() {
        int which = random.nextInt(100);
        if (which < 14) {
            addNode();
        } else if (which < 20) {
            addRule();
        } else if (which < 32) {
            changeRange();
        } else if (which < 38) {
            changeValue();
        } else if (which < 50) {
            compareValue();
        } else if (which < 70) {
            compareSpan();
        } else if (which < 80) {
            compareRule();
        } else if (which < 85) {
            compareSolve();
        } else if (which < 88) {
            compareSolved(index(8));
        } else if (which < 91) {
            compareWidth();
        } else if (which < 94) {
            comparePlaces();
        } else if (which < 96) {
            due("noRules()", solver.noRules(), model.noRules());
        } else {
            checkSpansHoldValues();
        }
    }

    /** A few RULES that are true at a hidden point, so that the search has to go down to it. */
    private void solvePuzzle() {
        int[] hidden = new int[4];
        for (int v = 0; v < 4; v++) {
            int low = anyPlace();
            int width = random.nextInt(1 << random.nextInt(random.nextInt(3) == 0 ? 31 : 6));
            int high = (int) Math.min(Model.HIGHEST, (long) low + width);
            hidden[v] = (int) (low + Math.floorMod(random.nextLong(), (long) high - low + 1));
            due("range", solver.range(v, low, high), model.range(v, low, high));
            due("node", solver.node(1, v, 0), model.node(1, v, 0));
        }
        for (int i = 4; i < 30; i++) {
            addNode();
        }
        int[] values = model.valuesAt(hidden);
        for (int i = 1 + random.nextInt(3); i > 0; i--) {
            addTrueRule(values);
        }
        for (int i = 0; i < 5; i++) {
            compareSolve();
        }
        due("solve(5000)", solver.solve(5000), model.solve(5000));
        for (int what = 0; what < 7; what++) {
            compareSolved(what);
        }
        DEEPEST[0] = Math.max(DEEPEST[0], model.solved(0) == 2 ? 0 : model.solved(1));
    }

    private void addTrueRule(int[] values) {
        int node = random.nextInt(values.length);
        int constant = model.nodes.size();
        due("node", solver.node(0, values[node], 0), model.node(0, values[node], 0));
        if (Machine.isNone(values[node])) {
            due("rule", solver.rule(4, node, constant), model.rule(4, node, constant));
        } else {
            int kind = 1 + random.nextInt(2);
            boolean turned = random.nextBoolean();
            int a = turned ? constant : node;
            int b = turned ? node : constant;
            due("rule", solver.rule(kind, a, b), model.rule(kind, a, b));
        }
    }

    private void run() {
        while (calls + CALLS_AT_ONCE <= LAST_CALL && !DUE.failed()) {
            call();
        }
    }

    public static void main(String[] args) {
        int runs = args.length > 0 ? Integer.parseInt(args[0]) : 400;
        for (int seed = 0; seed < runs && !DUE.failed(); seed++) {
            new ModelTest(seed).run();
            for (int i = 0; i < 5; i++) {
                new ModelTest(1_000_000L + 5 * seed + i).solvePuzzle();
            }
        }
        System.out.println("ModelTest: solve() found none " + SOLVED[0] + " times, solved " + SOLVED[1]
            + ", was spent " + SOLVED[2] + "; the longest that ended looked at " + DEEPEST[0] + " boxes");
        DUE.isTrue("solve() came to each of its answers", SOLVED[0] > 0 && SOLVED[1] > 0 && SOLVED[2] > 0);
        DUE.isTrue("a long search ended", DEEPEST[0] > 1000);
        DUE.end();
    }
}
