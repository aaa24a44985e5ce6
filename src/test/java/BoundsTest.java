/** Each sentence of the document that sets a bound, at the bound, one beside it and far beyond it. */
public final class BoundsTest {
    private static final Due DUE = new Due("BoundsTest");
    private static final long NOTHING = Long.MIN_VALUE;
    private static final int LOWEST = -2139095041;
    private static final int HIGHEST = 2139095040;
    private static final int NONE = 0x7fc00000;
    private static final int INFINITY = 0x7f800000;
    private static final int MINUS_INFINITY = 0xff800000;
    private static final int MINUS_ZERO = 0x80000000;
    private static final long ALL_PLACES = 4278190082L;
    private static final int[] NO_VARIABLES = {-1, 4, 5, Integer.MIN_VALUE, Integer.MAX_VALUE};
    private static final int[] NO_PLACES = {
        LOWEST - 1, HIGHEST + 1, NONE, Integer.MIN_VALUE, Integer.MAX_VALUE};
    private static final int[] NO_NUMBERS = {
        INFINITY + 1, NONE, NONE + 1, Integer.MAX_VALUE, MINUS_INFINITY + 1, 0xffc00000, -1};

    private BoundsTest() {
    }

    private static void noNumberIsOneFloat() {
        DUE.by("what is no number is one, NONE (bits 0x7fc00000)");
        for (int bits : NO_NUMBERS) {
            FloatSolver solver = new FloatSolver();
            DUE.is("a constant", solver.node(0, bits, 0), 0);
            DUE.is("its value", solver.value(0), NONE);
            DUE.is("-x", solver.value(solver.node(6, 0, 0)), NONE);
            DUE.is("x without sign", solver.value(solver.node(7, 0, 0)), NONE);
            DUE.is("x + x", solver.value(solver.node(2, 0, 0)), NONE);
            DUE.is("the lesser", solver.value(solver.node(8, 0, 0)), NONE);
        }
    }

    private static void placeOfBits() {
        FloatSolver solver = new FloatSolver();
        DUE.by("The PLACE of a FLOAT: its bits, if they are not below 0");
        DUE.is("place(0)", solver.place(0), 0);
        DUE.is("place(1)", solver.place(1), 1);
        DUE.is("of 1", solver.place(0x3f800000), 0x3f800000);
        DUE.is("of the greatest", solver.place(INFINITY - 1), HIGHEST - 1);
        DUE.by("else -1 less its bits without the sign: -0 is at -1");
        DUE.is("of -0", solver.place(MINUS_ZERO), -1);
        DUE.is("of the greatest below 0", solver.place(MINUS_ZERO + 1), -2);
        DUE.is("of -1", solver.place(0xbf800000), -1 - 0x3f800000);
        DUE.is("of the least", solver.place(MINUS_INFINITY - 1), LOWEST + 1);
        DUE.by("from -2139095041 (minus infinity) to 2139095040");
        DUE.is("of minus infinity", solver.place(MINUS_INFINITY), LOWEST);
        DUE.is("of infinity", solver.place(INFINITY), HIGHEST);
        DUE.by("NONE has none. / NOTHING: they are no number.");
        for (int bits : NO_NUMBERS) {
            DUE.is("place(" + bits + ")", solver.place(bits), NOTHING);
        }
    }

    private static void bitsOfPlace() {
        FloatSolver solver = new FloatSolver();
        DUE.by("Bits of the FLOAT at a PLACE.");
        DUE.is("at 0", solver.bits(0), 0);
        DUE.is("at -1", solver.bits(-1), MINUS_ZERO);
        DUE.is("at -2", solver.bits(-2), MINUS_ZERO + 1);
        DUE.is("at the lowest", solver.bits(LOWEST), MINUS_INFINITY);
        DUE.is("at the next", solver.bits(LOWEST + 1), MINUS_INFINITY - 1);
        DUE.is("at the highest but one", solver.bits(HIGHEST - 1), INFINITY - 1);
        DUE.is("at the highest", solver.bits(HIGHEST), INFINITY);
        for (int place = -100; place < 100; place++) {
            DUE.is("place(bits(" + place + "))", solver.place((int) solver.bits(place)), place);
        }
        DUE.by("Bits of the FLOAT at a PLACE. NOTHING.");
        for (int place : NO_PLACES) {
            DUE.is("bits(" + place + ")", solver.bits(place), NOTHING);
        }
    }

    private static void variables() {
        DUE.by("VARIABLES are 0 .. 3");
        for (int v = 0; v < 4; v++) {
            FloatSolver solver = new FloatSolver();
            DUE.is("node", solver.node(1, v, 0), 0);
            DUE.is("range", solver.range(v, v, v + 1), 1);
            DUE.is("set", solver.set(v, v + 7), 1);
            DUE.is("width", width(solver, v, 1), 2);
            DUE.is("value", solver.value(0), v + 7);
            DUE.span("its span", solver, 0, v, v + 1, 0);
        }
        DUE.by("-1 there is no such variable");
        for (int v : NO_VARIABLES) {
            FloatSolver solver = new FloatSolver();
            DUE.is("node(1, " + v + ")", solver.node(1, v, 0), -1);
            DUE.is("range(" + v + ")", solver.range(v, 0, 1), -1);
            DUE.is("set(" + v + ")", solver.set(v, 0), -1);
            DUE.is("width(" + v + ")", width(solver, v, 1), NOTHING);
        }
    }

    private static void atFirst() {
        FloatSolver solver = Solvers.withVariables();
        DUE.by("each has a RANGE of PLACES (at first all)");
        for (int v = 0; v < 4; v++) {
            DUE.span("variable " + v, solver, v, LOWEST, HIGHEST, 0);
            DUE.is("its width", width(solver, v, 1), ALL_PLACES);
        }
        DUE.by("and a VALUE (at first at PLACE 0)");
        for (int v = 0; v < 4; v++) {
            DUE.is("variable " + v, solver.value(v), 0);
        }
        DUE.by("No NODES, no RULES.");
        for (int i = 0; i < 40; i++) {
            FloatSolver other = new FloatSolver();
            DUE.is("value(" + i + ")", other.value(i), NOTHING);
            DUE.is("span(" + i + ", 0)", other.span(i, 0), NOTHING);
            DUE.is("holds(" + i + ")", other.holds(i), -1);
            DUE.is("judge(" + i + ")", other.judge(i), -1);
            DUE.is("noRules()", other.noRules(), 0);
            DUE.is("the first node", other.node(0, 5, 0), 0);
            DUE.is("the first rule", other.rule(4, 0, 0), 0);
        }
    }

    /** Of a full object and a new one, each has its own. */
    private static void objectsApart() {
        DUE.by("A new object: No NODES, no RULES., beside a full one");
        FloatSolver full = fullOfNodes();
        fillWithRules(full);
        full.range(0, 1, 2);
        full.set(0, 9);
        full.solve(1);
        FloatSolver other = new FloatSolver();
        DUE.is("value(0)", other.value(0), NOTHING);
        DUE.is("judge(0)", other.judge(0), -1);
        DUE.is("width(0, 1)", width(other, 0, 1), ALL_PLACES);
        DUE.is("solved(0)", other.solved(0), NOTHING);
        other.node(1, 0, 0);
        DUE.is("value(0)", other.value(0), 0);
        DUE.is("the full one's rules", full.noRules(), 12);
        DUE.is("the full one's range", width(full, 0, 1), 2);
    }

    /** NODES 0 to 3 are VARIABLES, each other one has the next whole number for its VALUE, up to 39. */
    private static FloatSolver fullOfNodes() {
        FloatSolver solver = Solvers.withVariables();
        for (int i = 4; i < 40; i++) {
            solver.node(0, Float.floatToIntBits(i), 0);
        }
        return solver;
    }

    private static void fillWithRules(FloatSolver solver) {
        for (int i = 0; i < 12; i++) {
            solver.rule(1, 4 + i, 5 + i);
        }
    }

    private static void nodesHaveRoom() {
        DUE.by("NODES 0 .. 39, as they come");
        FloatSolver solver = new FloatSolver();
        for (int i = 0; i < 40; i++) {
            DUE.is("node " + i, solver.node(0, 100 + i, 0), i);
        }
        for (int i = 0; i < 40; i++) {
            DUE.is("value(" + i + ")", solver.value(i), 100 + i);
            DUE.is("span(" + i + ", 1)", solver.span(i, 1), 100 + i);
        }
        DUE.by("A NODE more: its number. .. -4.");
        for (int kind = 0; kind < 16; kind++) {
            DUE.is("kind " + kind, solver.node(kind, 0, 0), -4);
        }
        DUE.is("value(39)", solver.value(39), 139);
        DUE.by("Bits of the VALUE of a NODE, as VARIABLES are. NOTHING.");
        for (int i : new int[] {-1, 40, 41, 64, Integer.MIN_VALUE, Integer.MAX_VALUE}) {
            DUE.is("value(" + i + ")", solver.value(i), NOTHING);
        }
        DUE.by("SPAN of a NODE .. NOTHING");
        for (int i : new int[] {-1, 40, 41, 64, Integer.MIN_VALUE, Integer.MAX_VALUE}) {
            for (int what = 0; what < 4; what++) {
                DUE.is("span(" + i + ", " + what + ")", solver.span(i, what), NOTHING);
            }
        }
    }

    /** The last NODE can look at the one ahead of it, and RULES and SPANS reach it. */
    private static void lastNode() {
        DUE.by("NODES 0 .. 39: the last of them");
        FloatSolver solver = Solvers.withVariables();
        for (int i = 4; i < 40; i++) {
            DUE.is("node " + i, solver.node(6, i == 4 ? 3 : i - 1, 0), i);
        }
        solver.range(3, 5, 6);
        solver.set(3, 6);
        DUE.is("value(39)", solver.value(39), 6);
        DUE.span("39", solver, 39, 5, 6, 0);
        DUE.is("value(38)", solver.value(38), MINUS_ZERO + 6);
        DUE.is("rule", solver.rule(0, 38, 39), 0);
        DUE.is("judge", solver.judge(0), 1);
        DUE.is("no such rule as of node 40", solver.rule(0, 40, 39), -1);
        DUE.is("nor by it", solver.rule(0, 39, 40), -1);
    }

    private static void nodesAhead() {
        DUE.by("a kind, x, y (NODES ahead of it, but as told)");
        FloatSolver solver = Solvers.withVariables();
        for (int kind = 2; kind < 16; kind++) {
            int count = kind + 2;
            DUE.is("x is itself", solver.node(kind, count, 0), -1);
            DUE.is("x is behind it", solver.node(kind, count + 1, 0), -1);
            DUE.is("x below 0", solver.node(kind, -1, 0), -1);
            DUE.is("x far below 0", solver.node(kind, Integer.MIN_VALUE, 0), -1);
            if (Machine.takesTwo(kind)) {
                DUE.is("y is itself", solver.node(kind, 0, count), -1);
                DUE.is("y is behind it", solver.node(kind, 0, count + 1), -1);
                DUE.is("y below 0", solver.node(kind, 0, -1), -1);
                DUE.is("y far above", solver.node(kind, 0, Integer.MAX_VALUE), -1);
                DUE.is("both", solver.node(kind, count, count), -1);
            }
            DUE.is("both are the last one", solver.node(kind, count - 1, count - 1), count);
        }
        DUE.by("(y of 0, 1, 6, 7, 10 to 13, 15 is not looked at.)");
        for (int kind : new int[] {0, 1, 6, 7, 10, 11, 12, 13, 15}) {
            for (int y : new int[] {-1, 40, Integer.MIN_VALUE, Integer.MAX_VALUE}) {
                FloatSolver other = Solvers.withVariables();
                DUE.is("kind " + kind + ", y " + y, other.node(kind, 0, y), 4);
                DUE.is("its value", other.value(4), kind == 6 ? MINUS_ZERO : 0);
                DUE.is("its span", other.span(4, 0), 1);
            }
        }
        DUE.by("-1 x, y (NODES; 1: a VARIABLE), 0 the FLOAT with bits x: no NODE is needed for these");
        FloatSolver empty = new FloatSolver();
        DUE.is("bits that are no node", empty.node(0, -5, 0), 0);
        DUE.is("a variable that is no node", empty.node(1, 3, 0), 1);
    }

    private static void kindsOfNodes() {
        DUE.by("-2 the kind (of a NODE)");
        for (int kind : new int[] {-1, 16, 17, Integer.MIN_VALUE, Integer.MAX_VALUE}) {
            FloatSolver solver = Solvers.withVariables();
            DUE.is("kind " + kind, solver.node(kind, 0, 0), -2);
            DUE.is("kind " + kind + " in a new object", new FloatSolver().node(kind, 0, 0), -2);
            DUE.is("kind " + kind + " in a full one", fullOfNodes().node(kind, 0, 0), -2);
        }
        DUE.by("A NODE more: its number.");
        FloatSolver solver = Solvers.withVariables();
        for (int kind = 0; kind < 16; kind++) {
            DUE.is("kind " + kind, solver.node(kind, 1, 1), kind + 4);
        }
    }

    private static void rulesHaveRoom() {
        DUE.by("RULES 0 .. 11");
        FloatSolver solver = fullOfNodes();
        for (int i = 0; i < 12; i++) {
            DUE.is("rule " + i, solver.rule(i % 2 == 0 ? 0 : 2, 4 + i, 5 + i), i);
        }
        for (int i = 0; i < 12; i++) {
            DUE.is("holds(" + i + ")", solver.holds(i), i % 2 == 0 ? 1 : 0);
            DUE.is("judge(" + i + ")", solver.judge(i), i % 2 == 0 ? 1 : 0);
        }
        DUE.by("A RULE more: its number. .. -4.");
        for (int kind = 0; kind < 6; kind++) {
            DUE.is("kind " + kind, solver.rule(kind, 0, 0), -4);
        }
        DUE.by("Whether a RULE is true, as VARIABLES are: 1, 0. -1. / A RULE in that BOX: 1, 0, 2. -1.");
        for (int i : new int[] {-1, 12, 13, 40, Integer.MIN_VALUE, Integer.MAX_VALUE}) {
            DUE.is("holds(" + i + ")", solver.holds(i), -1);
            DUE.is("judge(" + i + ")", solver.judge(i), -1);
        }
        DUE.by("All RULES go: how many there were.");
        DUE.is("a full row", solver.noRules(), 12);
        DUE.is("an empty row", solver.noRules(), 0);
        for (int i = 0; i < 12; i++) {
            DUE.is("holds(" + i + ")", solver.holds(i), -1);
            DUE.is("judge(" + i + ")", solver.judge(i), -1);
        }
        DUE.is("there is room again, from 0 on", solver.rule(5, 0, 0), 0);
        DUE.is("nodes stay", solver.value(39), Float.floatToIntBits(39f));
        DUE.is("one", solver.noRules(), 1);
    }

    private static void nodesOfRules() {
        DUE.by("two NODES a, b and a kind / -1 NODES");
        FloatSolver empty = new FloatSolver();
        FloatSolver solver = Solvers.withVariables();
        for (int kind = 0; kind < 6; kind++) {
            DUE.is("kind " + kind + " without nodes", empty.rule(kind, 0, 0), -1);
            for (int a : new int[] {-1, 4, 40, Integer.MIN_VALUE, Integer.MAX_VALUE}) {
                DUE.is("kind " + kind + ", a " + a, solver.rule(kind, a, 0), -1);
            }
        }
        for (int kind = 0; kind < 4; kind++) {
            for (int b : new int[] {-1, 4, 40, Integer.MIN_VALUE, Integer.MAX_VALUE}) {
                DUE.is("kind " + kind + ", b " + b, solver.rule(kind, 3, b), -1);
            }
            DUE.is("a and b are the same", solver.rule(kind, 3, 3), kind);
        }
        DUE.by("4 a is NONE; 5 it is not (b is not looked at).");
        for (int b : new int[] {-1, 4, 40, Integer.MIN_VALUE, Integer.MAX_VALUE}) {
            FloatSolver other = Solvers.withVariables();
            DUE.is("kind 4, b " + b, other.rule(4, 0, b), 0);
            DUE.is("kind 5, b " + b, other.rule(5, 0, b), 1);
            DUE.is("holds(0)", other.holds(0), 0);
            DUE.is("holds(1)", other.holds(1), 1);
            DUE.is("judge(0)", other.judge(0), 0);
            DUE.is("judge(1)", other.judge(1), 1);
        }
        DUE.by("-2 the kind (of a RULE)");
        for (int kind : new int[] {-1, 6, 7, Integer.MIN_VALUE, Integer.MAX_VALUE}) {
            DUE.is("kind " + kind, solver.rule(kind, 0, 0), -2);
        }
    }

    private static void ranges() {
        FloatSolver solver = Solvers.withVariables();
        DUE.by("A VARIABLE's RANGE: 1.");
        DUE.is("all places", solver.range(0, LOWEST, HIGHEST), 1);
        DUE.span("all places", solver, 0, LOWEST, HIGHEST, 0);
        DUE.is("the lowest alone", solver.range(1, LOWEST, LOWEST), 1);
        DUE.span("the lowest alone", solver, 1, LOWEST, LOWEST, 0);
        DUE.is("the highest alone", solver.range(2, HIGHEST, HIGHEST), 1);
        DUE.span("the highest alone", solver, 2, HIGHEST, HIGHEST, 0);
        DUE.is("both zeros", solver.range(3, -1, 0), 1);
        DUE.span("both zeros", solver, 3, -1, 0, 0);
        DUE.by("-2 no PLACES, or low above high.");
        for (int place : NO_PLACES) {
            DUE.is("low " + place, solver.range(0, place, HIGHEST), -2);
            DUE.is("high " + place, solver.range(0, LOWEST, place), -2);
            DUE.is("both " + place, solver.range(0, place, place), -2);
        }
        DUE.is("one above", solver.range(0, 1, 0), -2);
        DUE.is("0 above -0", solver.range(0, 0, -1), -2);
        DUE.is("far above", solver.range(0, HIGHEST, LOWEST), -2);
        DUE.span("it stays", solver, 0, LOWEST, HIGHEST, 0);
        DUE.is("not above: the same", solver.range(0, 1, 1), 1);
    }

    private static void settings() {
        FloatSolver solver = Solvers.withVariables();
        DUE.by("A VARIABLE's VALUE becomes the FLOAT at a PLACE: 1.");
        DUE.is("the lowest", solver.set(0, LOWEST), 1);
        DUE.is("the highest", solver.set(1, HIGHEST), 1);
        DUE.is("-0", solver.set(2, -1), 1);
        DUE.is("0", solver.set(3, 0), 1);
        DUE.is("minus infinity", solver.value(0), MINUS_INFINITY);
        DUE.is("infinity", solver.value(1), INFINITY);
        DUE.is("-0", solver.value(2), MINUS_ZERO);
        DUE.is("0", solver.value(3), 0);
        DUE.by("set: -2 (outside its bounds, which are those of PLACES)");
        for (int place : NO_PLACES) {
            DUE.is("set(0, " + place + ")", solver.set(0, place), -2);
            DUE.is("it stays", solver.value(0), MINUS_INFINITY);
        }
        DUE.by("a RANGE .., and a VALUE: neither bounds the other");
        DUE.is("the range goes elsewhere", solver.range(0, 5, 6), 1);
        DUE.is("the value stays", solver.value(0), MINUS_INFINITY);
        DUE.is("the value goes elsewhere", solver.set(0, 7), 1);
        DUE.is("the value is there", solver.value(0), 7);
        DUE.span("the range stays", solver, 0, 5, 6, 0);
    }

    private static void spansAnswered() {
        FloatSolver solver = Solvers.withVariables();
        int none = solver.node(0, NONE, 0);
        DUE.by("0 whether it has numbers (1, 0), 1, 2 the PLACES of its ends, 3 whether it may be NONE.");
        DUE.span("numbers", solver, 0, LOWEST, HIGHEST, 0);
        DUE.is("no numbers", solver.span(none, 0), 0);
        DUE.is("it may be none", solver.span(none, 3), 1);
        DUE.by("NOTHING: also 1, 2 without numbers.");
        DUE.is("span(none, 1)", solver.span(none, 1), NOTHING);
        DUE.is("span(none, 2)", solver.span(none, 2), NOTHING);
        DUE.by("span: what is none of 0 to 3");
        for (int what : new int[] {-1, 4, 5, Integer.MIN_VALUE, Integer.MAX_VALUE}) {
            DUE.is("span(0, " + what + ")", solver.span(0, what), NOTHING);
            DUE.is("span(none, " + what + ")", solver.span(none, what), NOTHING);
        }
    }

    private static void refusalsInOrder() {
        FloatSolver full = fullOfNodes();
        DUE.by("of several the first one here: -1 .. -2 .. -4 (node)");
        for (int kind = 2; kind < 16; kind++) {
            DUE.is("-1 ahead of -4, x", full.node(kind, 40, 0), -1);
            DUE.is("-1 ahead of -4, y", full.node(kind, 0, 40), Machine.takesTwo(kind) ? -1 : -4);
        }
        DUE.is("-1 ahead of -4, variable", full.node(1, 4, 0), -1);
        DUE.is("-2 ahead of -4", full.node(16, 0, 0), -2);
        DUE.by("of several the first one here: -1 .. -2 .. -4 (rule)");
        DUE.is("-1 ahead of -2, a", full.rule(6, 40, 0), -1);
        DUE.is("-1 ahead of -2, a below 0", full.rule(-1, -1, 0), -1);
        fillWithRules(full);
        DUE.is("-1 ahead of -4, a", full.rule(0, 40, 0), -1);
        DUE.is("-1 ahead of -4, b", full.rule(3, 0, 40), -1);
        DUE.is("-1 ahead of -4, kind 4", full.rule(4, 40, 0), -1);
        DUE.is("-2 ahead of -4", full.rule(6, 0, 0), -2);
        DUE.is("-1 ahead of both", full.rule(6, 40, 0), -1);
        DUE.is("-4 alone", full.rule(5, 0, 40), -4);
        DUE.by("of several the first one here: -1 .. -2 (range, set)");
        for (int v : NO_VARIABLES) {
            DUE.is("range, low above high", full.range(v, 1, 0), -1);
            DUE.is("range, no places", full.range(v, NONE, NONE), -1);
            DUE.is("set, no place", full.set(v, NONE), -1);
        }
    }

    private static void longRefusals() {
        DUE.by("NOTHING stands for all of them where a long is answered.");
        FloatSolver solver = new FloatSolver();
        DUE.is("FloatSolver.NOTHING", FloatSolver.NOTHING, Long.MIN_VALUE);
        DUE.is("place", solver.place(NONE), FloatSolver.NOTHING);
        DUE.is("bits", solver.bits(NONE), FloatSolver.NOTHING);
        DUE.is("value", solver.value(0), FloatSolver.NOTHING);
        DUE.is("span", solver.span(0, 0), FloatSolver.NOTHING);
        DUE.is("span, both", solver.span(0, 4), FloatSolver.NOTHING);
        DUE.is("solved", solver.solved(0), FloatSolver.NOTHING);
        DUE.is("width", width(solver, 4, 1), FloatSolver.NOTHING);
    }

    private static void work() {
        DUE.by("It is SOLVED with WORK w (1 to 5000) .. -2.");
        for (int w : new int[] {0, -1, 5001, Integer.MIN_VALUE, Integer.MAX_VALUE}) {
            FloatSolver solver = new FloatSolver();
            DUE.is("solve(" + w + ")", solver.solve(w), -2);
        }
        for (int w : new int[] {1, 2, 4999, 5000}) {
            FloatSolver solver = new FloatSolver();
            DUE.is("solve(" + w + ")", solver.solve(w), 1);
        }
    }

    private static long width(FloatSolver solver, int v, int n) {
        try {
            return solver.width(v, n);
        } catch (ArithmeticException e) {
            return -4444;
        }
    }

    private static void widths() {
        FloatSolver solver = new FloatSolver();
        solver.range(1, 3, 9);
        solver.range(2, HIGHEST, HIGHEST);
        DUE.by("How many PLACES a VARIABLE's RANGE has, by n, cut.");
        DUE.is("all by 1", width(solver, 0, 1), ALL_PLACES);
        DUE.is("all by the greatest n", width(solver, 0, Integer.MAX_VALUE), 1);
        DUE.is("all by the least n", width(solver, 0, Integer.MIN_VALUE), -1);
        DUE.is("all by -1", width(solver, 0, -1), -ALL_PLACES);
        DUE.is("seven by 2", width(solver, 1, 2), 3);
        DUE.is("seven by -2", width(solver, 1, -2), -3);
        DUE.is("seven by 7", width(solver, 1, 7), 1);
        DUE.is("seven by 8", width(solver, 1, 8), 0);
        DUE.is("seven by -8", width(solver, 1, -8), 0);
        DUE.is("one by 1", width(solver, 2, 1), 1);
        DUE.is("one by 2", width(solver, 2, 2), 0);
        DUE.by("ArithmeticException: n is 0.");
        for (int v = 0; v < 4; v++) {
            DUE.is("width(" + v + ", 0)", width(solver, v, 0), -4444);
        }
        DUE.is("usable after that", width(solver, 1, 1), 7);
        DUE.by("NOTHING (first): no such VARIABLE.");
        for (int v : NO_VARIABLES) {
            DUE.is("width(" + v + ", 1)", width(solver, v, 1), NOTHING);
            DUE.is("width(" + v + ", 0)", width(solver, v, 0), NOTHING);
        }
    }

    /** 40 NODES, 12 RULES and a wide search each time: the dearest that an object can be asked. */
    private static void allCallsOfAnObject() {
        DUE.by("An object is used for at most 512 calls after it has been made");
        FloatSolver solver = Solvers.withVariables();
        for (int i = 4; i < 40; i++) {
            solver.node(14, i - 1, 0);
        }
        for (int i = 0; i < 12; i++) {
            solver.rule(2, 39 - i, 0);
        }
        int calls = 52;
        while (calls < 510) {
            DUE.is("solve(5000)", solver.solve(5000), 2);
            DUE.is("looked at", solver.solved(1), 5000);
            calls += 2;
        }
        DUE.is("call 511", solver.value(39), NONE);
        DUE.is("call 512", solver.solve(5000), 2);
    }

    public static void main(String[] args) {
        noNumberIsOneFloat();
        placeOfBits();
        bitsOfPlace();
        variables();
        atFirst();
        objectsApart();
        nodesHaveRoom();
        lastNode();
        nodesAhead();
        kindsOfNodes();
        rulesHaveRoom();
        nodesOfRules();
        ranges();
        settings();
        spansAnswered();
        refusalsInOrder();
        longRefusals();
        work();
        widths();
        allCallsOfAnObject();
        DUE.end();
    }
}
