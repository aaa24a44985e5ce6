import java.util.ArrayList;
import java.util.List;

/** The document told once more, as plainly as it goes, on the machine's floats and with no regard to room. */
final class Model {
    static final long NOTHING = Long.MIN_VALUE;
    static final int LOWEST = -2139095041;
    static final int HIGHEST = 2139095040;

    record Node(int kind, int x, int y) {
    }

    record Rule(int kind, int a, int b) {
    }

    record Range(int low, int high) {
    }

    record Span(boolean numbers, int low, int high, boolean none) {
        static final Span ALL = new Span(true, LOWEST, HIGHEST, true);
        static final Span ONLY_NONE = new Span(false, 0, 0, true);

        static Span of(int bits) {
            return Machine.isNone(bits) ? ONLY_NONE
                : new Span(true, Machine.place(bits), Machine.place(bits), false);
        }

        boolean atOnePlace() {
            return low == high;
        }

        boolean hasZero() {
            return low <= -1 && -1 <= high || low <= 0 && 0 <= high;
        }

        boolean infiniteEnd() {
            return low == LOWEST || low == HIGHEST || high == LOWEST || high == HIGHEST;
        }

        boolean holds(int bits) {
            int place = Machine.place(bits);
            return Machine.isNone(bits) ? none : numbers && low <= place && place <= high;
        }
    }

    final List<Node> nodes = new ArrayList<>();
    final List<Rule> rules = new ArrayList<>();
    final Range[] ranges = new Range[4];
    final int[] values = new int[4];
    private long answer = NOTHING;
    private long looked = NOTHING;
    private long halved = NOTHING;
    private int[] solution = null;
    private int work;

    Model() {
        java.util.Arrays.fill(ranges, new Range(LOWEST, HIGHEST));
    }

    private static boolean isVariable(int v) {
        return v >= 0 && v <= 3;
    }

    private static boolean isPlace(int place) {
        return place >= LOWEST && place <= HIGHEST;
    }

    private boolean isNode(int i) {
        return i >= 0 && i < nodes.size();
    }

    private boolean isRule(int i) {
        return i >= 0 && i < rules.size();
    }

    int node(int kind, int x, int y) {
        boolean known = kind >= 0 && kind <= 15;
        if (known && kind == 1 && !isVariable(x) || known && kind >= 2 && !isNode(x)
            || known && Machine.takesTwo(kind) && !isNode(y)) {
            return -1;
        }
        if (!known) {
            return -2;
        }
        if (nodes.size() == 40) {
            return -4;
        }
        nodes.add(new Node(kind, x, y));
        return nodes.size() - 1;
    }

    int rule(int kind, int a, int b) {
        if (!isNode(a) || kind != 4 && kind != 5 && !isNode(b)) {
            return -1;
        }
        if (kind < 0 || kind > 5) {
            return -2;
        }
        if (rules.size() == 12) {
            return -4;
        }
        rules.add(new Rule(kind, a, b));
        return rules.size() - 1;
    }

    int noRules() {
        int were = rules.size();
        rules.clear();
        return were;
    }

    int range(int v, int low, int high) {
        if (!isVariable(v)) {
            return -1;
        }
        if (!isPlace(low) || !isPlace(high) || low > high) {
            return -2;
        }
        ranges[v] = new Range(low, high);
        return 1;
    }

    int set(int v, int place) {
        if (!isVariable(v)) {
            return -1;
        }
        if (!isPlace(place)) {
            return -2;
        }
        values[v] = place;
        return 1;
    }

    long place(int bits) {
        return Machine.isNone(bits) ? NOTHING : Machine.place(bits);
    }

    long bits(int place) {
        return isPlace(place) ? Machine.bits(place) : NOTHING;
    }

    long value(int node) {
        return isNode(node) ? valuesAt(values)[node] : NOTHING;
    }

    /** Bits of all NODES with VARIABLES at these PLACES. */
    int[] valuesAt(int[] places) {
        int[] all = new int[nodes.size()];
        for (int i = 0; i < all.length; i++) {
            Node node = nodes.get(i);
            if (node.kind == 0) {
                all[i] = Float.floatToIntBits(Float.intBitsToFloat(node.x));
            } else if (node.kind == 1) {
                all[i] = Machine.bits(places[node.x]);
            } else {
                all[i] = Machine.apply(node.kind, all[node.x], Machine.takesTwo(node.kind) ? all[node.y] : 0);
            }
        }
        return all;
    }

    int holds(int rule) {
        return isRule(rule) ? isTrue(rules.get(rule), values) ? 1 : 0 : -1;
    }

    boolean isTrue(Rule rule, int[] places) {
        int[] all = valuesAt(places);
        float b = rule.kind >= 4 ? 0 : Float.intBitsToFloat(all[rule.b]);
        return Machine.compare(rule.kind, Float.intBitsToFloat(all[rule.a]), b);
    }

    long span(int node, int what) {
        if (!isNode(node) || what < 0 || what > 3) {
            return NOTHING;
        }
        Span span = spansIn(ranges)[node];
        if (what == 0) {
            return span.numbers ? 1 : 0;
        }
        if (what == 3) {
            return span.none ? 1 : 0;
        }
        return !span.numbers ? NOTHING : what == 1 ? span.low : span.high;
    }

    Span[] spansIn(Range[] box) {
        Span[] spans = new Span[nodes.size()];
        for (int i = 0; i < spans.length; i++) {
            Node node = nodes.get(i);
            if (node.kind == 0) {
                spans[i] = Span.of(node.x);
            } else if (node.kind == 1) {
                spans[i] = new Span(true, box[node.x].low, box[node.x].high, false);
            } else if (Machine.takesTwo(node.kind)) {
                spans[i] = spanOfTwo(node.kind, spans[node.x], spans[node.y]);
            } else {
                spans[i] = spanOfOne(node.kind, spans[node.x]);
            }
        }
        return spans;
    }

    private static Span spanOfOne(int kind, Span x) {
        if (!x.numbers) {
            return kind == 13 ? Span.of(0) : Span.ONLY_NONE;
        }
        if (kind == 15 && x.low < -1) {
            return Span.ALL;
        }
        List<Integer> places = new ArrayList<>();
        places.add(Machine.place(Machine.apply(kind, Machine.bits(x.low), 0)));
        places.add(Machine.place(Machine.apply(kind, Machine.bits(x.high), 0)));
        if (kind == 7 && x.low <= -1 && x.high >= 0 || kind == 13 && x.none) {
            places.add(0);
        }
        return new Span(true, java.util.Collections.min(places), java.util.Collections.max(places),
            kind != 13 && x.none);
    }

    private static Span spanOfTwo(int kind, Span x, Span y) {
        if (!x.numbers || !y.numbers) {
            return Span.ONLY_NONE;
        }
        int lows = Machine.apply(kind, Machine.bits(x.low), Machine.bits(y.low));
        int highs = Machine.apply(kind, Machine.bits(x.high), Machine.bits(y.high));
        if (kind == 8 || kind == 9) {
            return new Span(true, Machine.place(lows), Machine.place(highs), x.none || y.none);
        }
        if (kind == 14) {
            return x.atOnePlace() && y.atOnePlace() && !x.none && !y.none ? Span.of(lows) : Span.ALL;
        }
        int[] four = {lows, highs, Machine.apply(kind, Machine.bits(x.low), Machine.bits(y.high)),
            Machine.apply(kind, Machine.bits(x.high), Machine.bits(y.low))};
        boolean all = kind == 4 && (x.hasZero() && y.infiniteEnd() || y.hasZero() && x.infiniteEnd())
            || kind == 5 && (y.hasZero() || x.infiniteEnd() && y.infiniteEnd());
        int least = HIGHEST;
        int greatest = LOWEST;
        for (int bits : four) {
            all |= Machine.isNone(bits);
            least = Math.min(least, Machine.place(bits));
            greatest = Math.max(greatest, Machine.place(bits));
        }
        return all ? Span.ALL : new Span(true, least, greatest, x.none || y.none);
    }

    int judge(int rule) {
        return isRule(rule) ? judge(rules.get(rule), spansIn(ranges)) : -1;
    }

    private static int judge(Rule rule, Span[] spans) {
        Span x = spans[rule.a];
        if (rule.kind >= 4) {
            int isNone = !x.numbers ? 1 : !x.none ? 0 : 2;
            return rule.kind == 4 || isNone == 2 ? isNone : 1 - isNone;
        }
        Span y = spans[rule.b];
        boolean numbers = x.numbers && y.numbers;
        boolean sure = !x.none && !y.none;
        float a = Machine.at(x.low);
        float aMost = Machine.at(x.high);
        float b = Machine.at(y.low);
        float bMost = Machine.at(y.high);
        if (rule.kind == 0) {
            return !numbers || a >= bMost ? 0 : sure && aMost < b ? 1 : 2;
        }
        if (rule.kind == 1) {
            return !numbers || a > bMost ? 0 : sure && aMost <= b ? 1 : 2;
        }
        int same = !numbers || aMost < b || bMost < a ? 0 : sure && a == aMost && b == bMost && a == b ? 1 : 2;
        return rule.kind == 2 || same == 2 ? same : 1 - same;
    }

    int solve(int w) {
        if (w < 1 || w > 5000) {
            return -2;
        }
        work = w;
        looked = 0;
        halved = 0;
        solution = null;
        answer = look(ranges);
        return (int) answer;
    }

    private int look(Range[] box) {
        if (looked == work) {
            return 2;
        }
        looked++;
        int[] lows = new int[4];
        int wide = 4;
        for (int v = 3; v >= 0; v--) {
            lows[v] = box[v].low;
            wide = box[v].low < box[v].high ? v : wide;
        }
        Span[] spans = spansIn(box);
        boolean all = true;
        boolean allTrue = true;
        for (Rule rule : rules) {
            int one = judge(rule, spans);
            if (one == 0) {
                return 0;
            }
            all &= one == 1;
            allTrue &= wide == 4 && isTrue(rule, lows);
        }
        if (all || wide == 4 && allTrue) {
            solution = lows;
            return 1;
        }
        return wide == 4 ? 0 : lookAtHalves(box, wide);
    }

    private int lookAtHalves(Range[] box, int v) {
        halved++;
        int middle = (int) Math.floorDiv((long) box[v].low + box[v].high, 2L);
        Range[] lower = box.clone();
        lower[v] = new Range(box[v].low, middle);
        int first = look(lower);
        if (first != 0) {
            return first;
        }
        Range[] upper = box.clone();
        upper[v] = new Range(middle + 1, box[v].high);
        return look(upper);
    }

    long solved(int what) {
        if (what == 0) {
            return answer;
        }
        if (what == 1) {
            return looked;
        }
        if (what == 2) {
            return halved;
        }
        return what >= 3 && what <= 6 && solution != null ? solution[what - 3] : NOTHING;
    }

    /** Not to be asked with n 0 for a VARIABLE. */
    long width(int v, int n) {
        return isVariable(v) ? ((long) ranges[v].high - ranges[v].low + 1) / n : NOTHING;
    }
}
