import java.util.ArrayList;
import java.util.LinkedHashMap;
import java.util.List;
import java.util.Map;

/**
 * "REFUSALS change nothing": of two objects that came to be by the same calls one is asked something
 * that is refused, and all that later calls show has to be the same for both.
 */
public final class RefusalsTest {
    private static final Due DUE = new Due("RefusalsTest");
    private static final long NOTHING = Long.MIN_VALUE;
    private static final long THROWN = -4444;
    private static final int LOWEST = -2139095041;
    private static final int HIGHEST = 2139095040;
    private static final int NONE = 0x7fc00000;
    private static final int LAST_CALL = 512;
    private static final int[] FAR = {-1, 40, Integer.MIN_VALUE, Integer.MAX_VALUE};
    private static final int[] NO_VARIABLES = {-1, 4, Integer.MIN_VALUE, Integer.MAX_VALUE};
    private static final int[] NO_PLACES = {LOWEST - 1, HIGHEST + 1, Integer.MIN_VALUE, Integer.MAX_VALUE};

    /** A call that is refused, and what it answers then. */
    private record Refused(String name, Call call, long answer) {
    }

    private interface Call {
        long on(FloatSolver solver);
    }

    private interface Past {
        FloatSolver make();
    }

    private final List<Refused> refused = new ArrayList<>();

    private RefusalsTest() {
    }

    private static FloatSolver few() {
        FloatSolver solver = Solvers.withVariables();
        solver.node(2, 0, 1);
        solver.node(14, 4, 2);
        solver.node(0, 7, 0);
        solver.rule(2, 5, 6);
        solver.rule(1, 0, 1);
        solver.range(0, -3, 4);
        solver.range(1, 2, 9);
        solver.range(2, 100, 100);
        solver.range(3, LOWEST, -1);
        solver.set(0, 3);
        solver.set(1, -1);
        solver.set(2, 100);
        solver.set(3, LOWEST);
        return solver;
    }

    private static FloatSolver full() {
        FloatSolver solver = few();
        for (int i = 7; i < 40; i++) {
            DUE.is("node " + i, solver.node(i % 14 + 2, i - 1, i - 3), i);
        }
        for (int i = 2; i < 12; i++) {
            DUE.is("rule " + i, solver.rule(i % 6, 3 * i, 39 - i), i);
        }
        return solver;
    }

    private static FloatSolver afterSolve(FloatSolver solver, int work, long want) {
        DUE.is("solve(" + work + ")", solver.solve(work), want);
        return solver;
    }

    private static FloatSolver withoutSolution() {
        FloatSolver solver = few();
        solver.rule(0, 6, 0);
        return afterSolve(solver, 5000, 0);
    }

    private static Map<String, Past> pasts() {
        Map<String, Past> pasts = new LinkedHashMap<>();
        pasts.put("a new object", FloatSolver::new);
        pasts.put("a few nodes and rules", RefusalsTest::few);
        pasts.put("no room", RefusalsTest::full);
        pasts.put("solved", () -> afterSolve(few(), 5000, 1));
        pasts.put("none", RefusalsTest::withoutSolution);
        pasts.put("spent", () -> afterSolve(few(), 3, 2));
        return pasts;
    }

    private static long width(FloatSolver solver, int v, int n) {
        try {
            return solver.width(v, n);
        } catch (ArithmeticException e) {
            return THROWN;
        }
    }

    private static void showSolved(FloatSolver solver, List<Long> shown) {
        for (int what = -1; what < 8; what++) {
            shown.add(solver.solved(what));
        }
    }

    /** All that can be asked, and at last the numbers that a new NODE and a new RULE get. */
    private static List<Long> show(FloatSolver solver) {
        List<Long> shown = new ArrayList<>();
        showSolved(solver, shown);
        for (int i = 0; i < 40; i++) {
            shown.add(solver.value(i));
            for (int what = 0; what < 4; what++) {
                shown.add(solver.span(i, what));
            }
        }
        for (int i = 0; i < 12; i++) {
            shown.add((long) solver.holds(i));
            shown.add((long) solver.judge(i));
        }
        for (int v = 0; v < 4; v++) {
            shown.add(width(solver, v, 1));
        }
        shown.add((long) solver.solve(200));
        showSolved(solver, shown);
        shown.add((long) solver.node(0, 77, 0));
        shown.add((long) solver.rule(4, 0, 0));
        shown.add((long) solver.solve(200));
        showSolved(solver, shown);
        shown.add((long) solver.noRules());
        return shown;
    }

    private void add(String name, long answer, Call call) {
        refused.add(new Refused(name, call, answer));
    }

    private void refuseNodes(int count) {
        for (int kind : new int[] {-1, 16, Integer.MIN_VALUE, Integer.MAX_VALUE}) {
            add("node(" + kind + ", 0, 0)", -2, s -> s.node(kind, 0, 0));
        }
        for (int v : NO_VARIABLES) {
            add("node(1, " + v + ", 0)", -1, s -> s.node(1, v, 0));
        }
        for (int kind = 2; kind < 16; kind++) {
            int of = kind;
            add("node(" + of + ", " + count + ", 0)", -1, s -> s.node(of, count, 0));
            if (Machine.takesTwo(of)) {
                add("node(" + of + ", 0, " + count + ")", -1, s -> s.node(of, 0, count));
            }
        }
        for (int far : FAR) {
            add("node(2, " + far + ", 0)", -1, s -> s.node(2, far, 0));
            add("node(2, 0, " + far + ")", -1, s -> s.node(2, 0, far));
        }
        for (int kind = 0; kind < 16 && count == 40; kind++) {
            int of = kind;
            add("node(" + of + ", 3, 3)", -4, s -> s.node(of, 3, 3));
        }
    }

    private void refuseRules(int nodes, int count) {
        for (int kind = 0; kind < 6; kind++) {
            int of = kind;
            add("rule(" + of + ", " + nodes + ", 0)", -1, s -> s.rule(of, nodes, 0));
            if (of < 4) {
                add("rule(" + of + ", 0, " + nodes + ")", -1, s -> s.rule(of, 0, nodes));
            }
            if (count == 12) {
                add("rule(" + of + ", 0, 0)", -4, s -> s.rule(of, 0, 0));
            }
        }
        for (int far : FAR) {
            add("rule(3, " + far + ", 0)", -1, s -> s.rule(3, far, 0));
            add("rule(3, 0, " + far + ")", -1, s -> s.rule(3, 0, far));
        }
        for (int kind : new int[] {-1, 6, Integer.MIN_VALUE, Integer.MAX_VALUE}) {
            add("rule(" + kind + ", 0, 0)", nodes == 0 ? -1 : -2, s -> s.rule(kind, 0, 0));
        }
    }

    private void refuseVariables() {
        for (int v : NO_VARIABLES) {
            add("range(" + v + ", 5, 6)", -1, s -> s.range(v, 5, 6));
            add("set(" + v + ", 5)", -1, s -> s.set(v, 5));
            add("width(" + v + ", 1)", NOTHING, s -> width(s, v, 1));
            add("width(" + v + ", 0)", NOTHING, s -> width(s, v, 0));
        }
        for (int v = 0; v < 4; v++) {
            int of = v;
            add("range(" + of + ", 6, 5)", -2, s -> s.range(of, 6, 5));
            add("range(" + of + ", 0, -1)", -2, s -> s.range(of, 0, -1));
            add("width(" + of + ", 0)", THROWN, s -> width(s, of, 0));
            for (int place : NO_PLACES) {
                add("range(" + of + ", " + place + ", 5)", -2, s -> s.range(of, place, 5));
                add("range(" + of + ", 5, " + place + ")", -2, s -> s.range(of, 5, place));
                add("set(" + of + ", " + place + ")", -2, s -> s.set(of, place));
            }
        }
    }

    private void refuseQuestions(int nodes, int rules) {
        add("place(NONE)", NOTHING, s -> s.place(NONE));
        add("bits(NONE)", NOTHING, s -> s.bits(NONE));
        add("value(" + nodes + ")", NOTHING, s -> s.value(nodes));
        add("span(" + nodes + ", 0)", NOTHING, s -> s.span(nodes, 0));
        add("span(0, 4)", NOTHING, s -> s.span(0, 4));
        add("holds(" + rules + ")", -1, s -> s.holds(rules));
        add("judge(" + rules + ")", -1, s -> s.judge(rules));
        add("solved(7)", NOTHING, s -> s.solved(7));
        add("solved(-1)", NOTHING, s -> s.solved(-1));
        for (int far : FAR) {
            add("value(" + far + ")", NOTHING, s -> s.value(far));
            add("span(" + far + ", 0)", NOTHING, s -> s.span(far, 0));
            add("holds(" + far + ")", -1, s -> s.holds(far));
            add("judge(" + far + ")", -1, s -> s.judge(far));
        }
        for (int w : new int[] {0, -1, 5001, Integer.MIN_VALUE, Integer.MAX_VALUE}) {
            add("solve(" + w + ")", -2, s -> s.solve(w));
        }
    }

    private static int nodesOf(Past past) {
        FloatSolver solver = past.make();
        int nodes = 0;
        while (nodes < 40 && solver.value(nodes) != NOTHING) {
            nodes++;
        }
        return nodes;
    }

    /** One by one, each before the same questions. */
    private void compareAlone(String name, Past past) {
        List<Long> due = show(past.make());
        for (Refused one : refused) {
            FloatSolver solver = past.make();
            DUE.is(name + ": " + one.name, one.call.on(solver), one.answer);
            compare(name + ", after " + one.name, show(solver), due);
        }
    }

    /** Many of them in one object, as far as its calls go. */
    private void compareTogether(String name, Past past) {
        List<Long> due = show(past.make());
        int room = LAST_CALL - 64 - due.size();
        for (int from = 0; from < refused.size(); from += room) {
            FloatSolver solver = past.make();
            for (Refused one : refused.subList(from, Math.min(from + room, refused.size()))) {
                DUE.is(name + ": " + one.name, one.call.on(solver), one.answer);
            }
            compare(name + ", after many that were refused", show(solver), due);
        }
    }

    private static void compare(String name, List<Long> shown, List<Long> due) {
        DUE.is(name + ": answers", shown.size(), due.size());
        for (int i = 0; i < due.size(); i++) {
            DUE.is(name + ": answer " + i, shown.get(i), due.get(i));
        }
    }

    public static void main(String[] args) {
        for (Map.Entry<String, Past> entry : pasts().entrySet()) {
            DUE.by("REFUSALS change nothing (" + entry.getKey() + ")");
            RefusalsTest test = new RefusalsTest();
            int nodes = nodesOf(entry.getValue());
            int rules = entry.getValue().make().noRules();
            test.refuseNodes(nodes);
            test.refuseRules(nodes, rules);
            test.refuseVariables();
            test.refuseQuestions(nodes, rules);
            test.compareAlone(entry.getKey(), entry.getValue());
            test.compareTogether(entry.getKey(), entry.getValue());
        }
        DUE.end();
    }
}
