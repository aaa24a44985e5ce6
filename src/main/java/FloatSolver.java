import java.util.Arrays;

/**
 * Rules over floats of 32 bits that are solved exactly. All arithmetic is done on the bits, with
 * ints and longs alone, so that no rounding and no "no number" of the machine is relied on.
 */
public final class FloatSolver {
    public static final long NOTHING = Long.MIN_VALUE;

    private static final int NO_SUCH = -1;
    private static final int OUTSIDE = -2;
    private static final int NO_ROOM = -4;

    private static final int VARIABLES = 4;
    private static final int NODE_LIMIT = 40;
    private static final int RULE_LIMIT = 12;
    private static final int WORK_LIMIT = 5000;

    private static final int CONSTANT = 0;
    private static final int VARIABLE = 1;
    private static final int SUM = 2;
    private static final int DIFFERENCE = 3;
    private static final int PRODUCT = 4;
    private static final int QUOTIENT = 5;
    private static final int NEGATIVE = 6;
    private static final int SIZE = 7;
    private static final int LESSER = 8;
    private static final int GREATER = 9;
    private static final int DOWN = 10;
    private static final int UP = 11;
    private static final int NEAREST = 12;
    private static final int AS_INT = 13;
    private static final int REMAINDER = 14;
    private static final int ROOT = 15;

    private static final int LESS = 0;
    private static final int AT_MOST = 1;
    private static final int SAME = 2;
    private static final int OTHER = 3;
    private static final int IS_NONE = 4;
    private static final int IS_NUMBER = 5;

    /** What a RULE or all RULES come to in a BOX, and what solve() answers, share these. */
    private static final int NO = 0;
    private static final int YES = 1;
    private static final int PERHAPS = 2;

    private static final int SIGN = Integer.MIN_VALUE;
    private static final int NO_SIGN = Integer.MAX_VALUE;
    private static final int INFINITY = 0x7f800000;
    private static final int NONE = 0x7fc00000;
    private static final int LOWEST_PLACE = -1 - INFINITY;
    private static final int HIGHEST_PLACE = INFINITY;
    private static final int PLACE_OF_MINUS_ZERO = -1;

    private final Nodes nodes = new Nodes();
    private final Rules rules = new Rules();
    private final Box ranges = new Box();
    private final int[] settings = new int[VARIABLES];
    private final Spans spans = new Spans(nodes);
    private final Search search = new Search(nodes, rules, spans, ranges);

    public FloatSolver() {
    }

    public int node(int kind, int x, int y) {
        // A kind that is none does not say what x and y would be: so they can not be missing ahead of it.
        if (kind < CONSTANT || kind > ROOT) {
            return OUTSIDE;
        }
        if (kind == VARIABLE && !isVariable(x)) {
            return NO_SUCH;
        }
        if (Nodes.looksAtX(kind) && !nodes.has(x)) {
            return NO_SUCH;
        }
        if (Nodes.looksAtY(kind) && !nodes.has(y)) {
            return NO_SUCH;
        }
        return nodes.count == NODE_LIMIT ? NO_ROOM : nodes.add(kind, x, y);
    }

    public int rule(int kind, int a, int b) {
        boolean looksAtB = kind != IS_NONE && kind != IS_NUMBER;
        if (!nodes.has(a) || (looksAtB && !nodes.has(b))) {
            return NO_SUCH;
        }
        if (kind < LESS || kind > IS_NUMBER) {
            return OUTSIDE;
        }
        return rules.count == RULE_LIMIT ? NO_ROOM : rules.add(kind, a, looksAtB ? b : a);
    }

    public int noRules() {
        return rules.clear();
    }

    public int range(int v, int low, int high) {
        if (!isVariable(v)) {
            return NO_SUCH;
        }
        if (!isPlace(low) || !isPlace(high) || low > high) {
            return OUTSIDE;
        }
        ranges.put(v, low, high);
        return 1;
    }

    public int set(int v, int place) {
        if (!isVariable(v)) {
            return NO_SUCH;
        }
        if (!isPlace(place)) {
            return OUTSIDE;
        }
        settings[v] = place;
        return 1;
    }

    // ---- floats

    public long place(int bits) {
        return Floats.isNone(bits) ? NOTHING : Floats.placeOf(bits);
    }

    public long bits(int place) {
        return isPlace(place) ? Floats.bitsAt(place) : NOTHING;
    }

    public long value(int node) {
        if (!nodes.has(node)) {
            return NOTHING;
        }
        nodes.evaluate(settings);
        return nodes.values[node];
    }

    public int holds(int rule) {
        if (!rules.has(rule)) {
            return NO_SUCH;
        }
        nodes.evaluate(settings);
        return rules.isTrue(rule, nodes.values) ? 1 : 0;
    }

    // ---- spans

    public long span(int node, int what) {
        if (!nodes.has(node)) {
            return NOTHING;
        }
        spans.fill(ranges, nodes.rests[node]);
        switch (what) {
            case 0:
                return spans.some[node] ? 1 : 0;
            case 1:
                return spans.some[node] ? spans.low[node] : NOTHING;
            case 2:
                return spans.some[node] ? spans.high[node] : NOTHING;
            case 3:
                return spans.none[node] ? 1 : 0;
            default:
                return NOTHING;
        }
    }

    public int judge(int rule) {
        if (!rules.has(rule)) {
            return NO_SUCH;
        }
        spans.fill(ranges, rules.restOn(rule, nodes));
        return rules.verdict(rule, spans);
    }

    // ---- solving

    public int solve(int w) {
        if (w < 1 || w > WORK_LIMIT) {
            return OUTSIDE;
        }
        return search.run(w);
    }

    public long solved(int what) {
        if (!search.hasRun) {
            return NOTHING;
        }
        switch (what) {
            case 0:
                return search.answer;
            case 1:
                return search.looked;
            case 2:
                return search.halved;
            default:
                return isVariable(what - 3) && search.answer == YES ? search.box.low[what - 3] : NOTHING;
        }
    }

    public long width(int v, int n) throws ArithmeticException {
        if (!isVariable(v)) {
            return NOTHING;
        }
        if (n == 0) {
            throw new ArithmeticException("a width is asked for by 0");
        }
        return ((long) ranges.high[v] - ranges.low[v] + 1) / n;
    }

    private static boolean isVariable(int v) {
        return v >= 0 && v < VARIABLES;
    }

    private static boolean isPlace(int p) {
        return p >= LOWEST_PLACE && p <= HIGHEST_PLACE;
    }

    /** How FLOATS stand as bits, as PLACES and in order. */
    private static final class Floats {
        static boolean isNone(int bits) {
            return (bits & NO_SIGN) > INFINITY;
        }

        static int placeOf(int bits) {
            return bits < 0 ? bits ^ NO_SIGN : bits;
        }

        static int bitsAt(int place) {
            return place < 0 ? place ^ NO_SIGN : place;
        }

        /** The machine takes -0 and 0 for the same, PLACES do not: ranks are compared as numbers are. */
        static int rank(int place) {
            return place < 0 ? place + 1 : place;
        }

        /** A FLOAT without sign is its significand times two to the power of its exponent. */
        static long significand(int bits) {
            int fraction = bits & 0x7fffff;
            return (bits & INFINITY) == 0 ? fraction : fraction | 0x800000;
        }

        static int exponent(int bits) {
            int field = (bits & NO_SIGN) >>> 23;
            return field == 0 ? -149 : field - 150;
        }

        /**
         * The FLOAT nearest to significand * 2^exponent, even ones first. Who has cut something off
         * sets the lowest bit and brings 26 bits or more, so that the bit is below the one that decides.
         */
        static int nearest(int sign, long significand, int exponent) {
            if (significand == 0) {
                return sign;
            }
            int length = 64 - Long.numberOfLeadingZeros(significand);
            int unit = Math.max(exponent + length - 24, -149);
            int shift = unit - exponent;
            if (unit > 104) {
                return sign | INFINITY;
            }
            if (shift > length) {
                return sign;
            }
            long kept = significand << Math.max(-shift, 0);
            if (shift > 0) {
                kept = significand >>> shift;
                long rest = significand - (kept << shift);
                long half = 1L << (shift - 1);
                if (rest > half || (rest == half && (kept & 1) == 1)) {
                    kept++;
                }
            }
            // The sum lets the leading bit and a carry run into the exponent, up to infinity.
            return sign | (((unit + 149) << 23) + (int) kept);
        }
    }

    /** The VALUES of all kinds of NODES that look at other NODES, from bits to bits. */
    private static final class Arithmetic {
        private static final int ONE = 0x3f800000;
        private static final int HALF = 0x3f000000;
        private static final int ALWAYS_WHOLE = 0x4b000000;
        private static final int BEYOND_INT = 0x4f000000;
        private static final int FAR = 30;
        private static final int STEP = 38;

        static int ofOne(int kind, int x) {
            if (Floats.isNone(x)) {
                return kind == AS_INT ? 0 : NONE;
            }
            int sign = x & SIGN;
            int size = x & NO_SIGN;
            switch (kind) {
                case NEGATIVE:
                    return x ^ SIGN;
                case SIZE:
                    return size;
                case DOWN:
                    return sign | (sign == 0 ? cut(size) : grown(size));
                case UP:
                    return sign | (sign == 0 ? grown(size) : cut(size));
                case NEAREST:
                    return sign | nearestWhole(size);
                case AS_INT:
                    return asInt(sign, size);
                default:
                    return root(x);
            }
        }

        static int ofTwo(int kind, int x, int y) {
            if (Floats.isNone(x) || Floats.isNone(y)) {
                return NONE;
            }
            switch (kind) {
                case SUM:
                    return sum(x, y);
                case DIFFERENCE:
                    return sum(x, y ^ SIGN);
                case PRODUCT:
                    return product(x, y);
                case QUOTIENT:
                    return quotient(x, y);
                case LESSER:
                    return Floats.placeOf(x) <= Floats.placeOf(y) ? x : y;
                case GREATER:
                    return Floats.placeOf(x) >= Floats.placeOf(y) ? x : y;
                default:
                    return remainder(x, y);
            }
        }

        private static int sum(int x, int y) {
            if ((x & NO_SIGN) == INFINITY) {
                return (y & NO_SIGN) == INFINITY && x != y ? NONE : x;
            }
            if ((y & NO_SIGN) == INFINITY) {
                return y;
            }
            int distance = Floats.exponent(x) - Floats.exponent(y);
            int big = distance >= 0 ? x : y;
            int small = distance >= 0 ? y : x;
            int lift = Math.abs(distance);
            if (lift > FAR) {
                // The small one is far below half the step from the big one to its neighbours.
                return big;
            }
            long more = Floats.significand(big) << lift;
            long less = Floats.significand(small);
            long total = (big < 0 ? -more : more) + (small < 0 ? -less : less);
            if (total == 0) {
                // Only two minus zeros come to minus zero; what cancels out has two signs.
                return x & y & SIGN;
            }
            return Floats.nearest(total < 0 ? SIGN : 0, Math.abs(total), Floats.exponent(small));
        }

        private static int product(int x, int y) {
            int sign = (x ^ y) & SIGN;
            int xSize = x & NO_SIGN;
            int ySize = y & NO_SIGN;
            if (xSize == INFINITY || ySize == INFINITY) {
                return xSize == 0 || ySize == 0 ? NONE : sign | INFINITY;
            }
            long significand = Floats.significand(x) * Floats.significand(y);
            return Floats.nearest(sign, significand, Floats.exponent(x) + Floats.exponent(y));
        }

        private static int quotient(int x, int y) {
            int sign = (x ^ y) & SIGN;
            int xSize = x & NO_SIGN;
            int ySize = y & NO_SIGN;
            if (xSize == ySize && (xSize == 0 || xSize == INFINITY)) {
                return NONE;
            }
            long divisor = Floats.significand(y);
            if (xSize == INFINITY || divisor == 0) {
                return sign | INFINITY;
            }
            if (xSize == 0 || ySize == INFINITY) {
                return sign;
            }
            long dividend = Floats.significand(x);
            int lift = Long.numberOfLeadingZeros(dividend) - 2;
            long lifted = dividend << lift;
            long down = lifted / divisor;
            long significand = down * divisor == lifted ? down : down | 1;
            return Floats.nearest(sign, significand, Floats.exponent(x) - lift - Floats.exponent(y));
        }

        private static int remainder(int x, int y) {
            long divisor = Floats.significand(y);
            if ((x & NO_SIGN) == INFINITY || divisor == 0) {
                return NONE;
            }
            if ((x & NO_SIGN) < (y & NO_SIGN)) {
                return x;
            }
            int unit = Floats.exponent(y);
            long rest = Floats.significand(x) % divisor;
            for (int left = Floats.exponent(x) - unit; left > 0; left -= STEP) {
                rest = (rest << Math.min(left, STEP)) % divisor;
            }
            return Floats.nearest(x & SIGN, rest, unit);
        }

        private static int root(int x) {
            if ((x & NO_SIGN) == 0 || x == INFINITY) {
                return x;
            }
            if (x < 0) {
                return NONE;
            }
            long significand = Floats.significand(x);
            int lift = Long.numberOfLeadingZeros(significand) - 2;
            if (((Floats.exponent(x) - lift) & 1) == 1) {
                lift--;
            }
            long square = significand << lift;
            long down = rootDown(square);
            long marked = down * down == square ? down : down | 1;
            return Floats.nearest(0, marked, (Floats.exponent(x) - lift) >> 1);
        }

        private static long rootDown(long square) {
            long root = 0;
            for (long bit = 1L << 30; bit > 0; bit >>= 1) {
                long tried = root + bit;
                if (tried * tried <= square) {
                    root = tried;
                }
            }
            return root;
        }

        /** Toward 0. */
        private static int cut(int size) {
            if (size < ONE) {
                return 0;
            }
            return size >= ALWAYS_WHOLE ? size : size & -unitOf(size);
        }

        /** Away from 0. */
        private static int grown(int size) {
            if (size == 0 || size >= ALWAYS_WHOLE) {
                return size;
            }
            if (size < ONE) {
                return ONE;
            }
            int unit = unitOf(size);
            return (size + unit - 1) & -unit;
        }

        private static int nearestWhole(int size) {
            if (size >= ALWAYS_WHOLE) {
                return size;
            }
            if (size < ONE) {
                return size <= HALF ? 0 : ONE;
            }
            int unit = unitOf(size);
            int whole = size & -unit;
            int rest = size - whole;
            int half = unit >> 1;
            // At 1 the unit is the lowest bit of the exponent, which is set there: 1 is odd as well.
            boolean up = rest > half || (rest == half && (whole & unit) != 0);
            return up ? whole + unit : whole;
        }

        /** What 1 is in the bits of a FLOAT from 1 on that may have a broken part. */
        private static int unitOf(int size) {
            return 1 << (150 - (size >>> 23));
        }

        private static int asInt(int sign, int size) {
            if (size < ONE) {
                return 0;
            }
            return sign | (size >= BEYOND_INT ? BEYOND_INT : cut(size));
        }
    }

    /** NODES as they came; a NODE looks only at those ahead of it, so one pass gives all VALUES. */
    private static final class Nodes {
        final int[] kind = new int[NODE_LIMIT];
        final int[] x = new int[NODE_LIMIT];
        final int[] y = new int[NODE_LIMIT];
        final int[] values = new int[NODE_LIMIT];
        /** A bit for each NODE that this one rests on, itself among them. */
        final long[] rests = new long[NODE_LIMIT];
        /** A bit for each NODE that rests on this VARIABLE. */
        final long[] users = new long[VARIABLES];
        int count = 0;

        static boolean looksAtX(int kind) {
            return kind >= SUM && kind <= ROOT;
        }

        static boolean looksAtY(int kind) {
            switch (kind) {
                case SUM:
                case DIFFERENCE:
                case PRODUCT:
                case QUOTIENT:
                case LESSER:
                case GREATER:
                case REMAINDER:
                    return true;
                default:
                    return false;
            }
        }

        boolean has(int i) {
            return i >= 0 && i < count;
        }

        int add(int newKind, int newX, int newY) {
            kind[count] = newKind;
            x[count] = newKind == CONSTANT && Floats.isNone(newX) ? NONE : newX;
            // A y that is not looked at may be any number; x in its place keeps every index good.
            y[count] = looksAtY(newKind) ? newY : newX;
            link(count);
            count++;
            return count - 1;
        }

        private void link(int i) {
            long bit = 1L << i;
            rests[i] = looksAtX(kind[i]) ? bit | rests[x[i]] | rests[y[i]] : bit;
            if (kind[i] == VARIABLE) {
                users[x[i]] |= bit;
            }
            for (int v = 0; v < VARIABLES; v++) {
                if ((users[v] & rests[i]) != 0) {
                    users[v] |= bit;
                }
            }
        }

        void evaluate(int[] places) {
            for (int i = 0; i < count; i++) {
                if (kind[i] == CONSTANT) {
                    values[i] = x[i];
                } else if (kind[i] == VARIABLE) {
                    values[i] = Floats.bitsAt(places[x[i]]);
                } else if (looksAtY(kind[i])) {
                    values[i] = Arithmetic.ofTwo(kind[i], values[x[i]], values[y[i]]);
                } else {
                    values[i] = Arithmetic.ofOne(kind[i], values[x[i]]);
                }
            }
        }
    }

    /** A RANGE of PLACES for each VARIABLE. */
    private static final class Box {
        final int[] low = new int[VARIABLES];
        final int[] high = new int[VARIABLES];

        Box() {
            Arrays.fill(low, LOWEST_PLACE);
            Arrays.fill(high, HIGHEST_PLACE);
        }

        void put(int v, int newLow, int newHigh) {
            low[v] = newLow;
            high[v] = newHigh;
        }

        /** Becomes like the other one: a bit for each VARIABLE whose RANGE is another now. */
        int follow(Box other) {
            int changed = 0;
            for (int v = 0; v < VARIABLES; v++) {
                if (low[v] != other.low[v] || high[v] != other.high[v]) {
                    changed |= 1 << v;
                    put(v, other.low[v], other.high[v]);
                }
            }
            return changed;
        }

        /** The first VARIABLE with more PLACES than one; VARIABLES if there is none. */
        int firstWide() {
            int v = 0;
            while (v < VARIABLES && low[v] == high[v]) {
                v++;
            }
            return v;
        }
    }

    /** The SPANS of all NODES in one BOX. */
    private static final class Spans {
        final boolean[] some = new boolean[NODE_LIMIT];
        final boolean[] none = new boolean[NODE_LIMIT];
        final int[] low = new int[NODE_LIMIT];
        final int[] high = new int[NODE_LIMIT];
        private final Nodes nodes;
        private final Box box = new Box();
        /** A bit for each NODE whose SPAN stands here as it is in the BOX. */
        private long standing = 0;

        Spans(Nodes nodes) {
            this.nodes = nodes;
        }

        /** Halving changes one VARIABLE mostly, so that most SPANS can stand from BOX to BOX. */
        void fill(Box wanted, long needed) {
            forget(box.follow(wanted));
            long missing = needed & ~standing;
            for (int i = 0; i < nodes.count; i++) {
                int kind = nodes.kind[i];
                if ((missing & (1L << i)) == 0) {
                    continue;
                }
                if (kind == CONSTANT) {
                    putValue(i, nodes.x[i]);
                } else if (kind == VARIABLE) {
                    put(i, box.low[nodes.x[i]], box.high[nodes.x[i]], false);
                } else if (!some[nodes.x[i]] || !some[nodes.y[i]]) {
                    putValue(i, kind == AS_INT ? 0 : NONE);
                } else if (kind <= QUOTIENT) {
                    fillFromCorners(i, kind, nodes.x[i], nodes.y[i]);
                } else if (kind == LESSER || kind == GREATER) {
                    fillFromPairs(i, kind == LESSER, nodes.x[i], nodes.y[i]);
                } else if (kind == REMAINDER) {
                    fillRemainder(i, nodes.x[i], nodes.y[i]);
                } else {
                    fillFromEnds(i, kind, nodes.x[i]);
                }
            }
            standing |= missing;
        }

        private void forget(int changed) {
            for (int v = 0; v < VARIABLES; v++) {
                if ((changed & (1 << v)) != 0) {
                    standing &= ~nodes.users[v];
                }
            }
        }

        private void put(int i, int newLow, int newHigh, boolean mayBeNone) {
            some[i] = true;
            low[i] = newLow;
            high[i] = newHigh;
            none[i] = mayBeNone;
        }

        private void putAll(int i) {
            put(i, LOWEST_PLACE, HIGHEST_PLACE, true);
        }

        private void putValue(int i, int bits) {
            put(i, Floats.placeOf(bits), Floats.placeOf(bits), Floats.isNone(bits));
            some[i] = !none[i];
        }

        private void fillFromEnds(int i, int kind, int x) {
            if (kind == ROOT && low[x] < PLACE_OF_MINUS_ZERO) {
                putAll(i);
                return;
            }
            int one = Floats.placeOf(Arithmetic.ofOne(kind, Floats.bitsAt(low[x])));
            int other = Floats.placeOf(Arithmetic.ofOne(kind, Floats.bitsAt(high[x])));
            int least = Math.min(one, other);
            int greatest = Math.max(one, other);
            if (kind == SIZE && low[x] <= PLACE_OF_MINUS_ZERO && high[x] >= 0) {
                least = 0;
            }
            if (kind == AS_INT && none[x]) {
                least = Math.min(least, 0);
                greatest = Math.max(greatest, 0);
            }
            put(i, least, greatest, none[x] && kind != AS_INT);
        }

        private void fillFromPairs(int i, boolean lesser, int x, int y) {
            int newLow = lesser ? Math.min(low[x], low[y]) : Math.max(low[x], low[y]);
            int newHigh = lesser ? Math.min(high[x], high[y]) : Math.max(high[x], high[y]);
            put(i, newLow, newHigh, none[x] || none[y]);
        }

        private void fillFromCorners(int i, int kind, int x, int y) {
            if (cornersTellTooLittle(kind, x, y)) {
                putAll(i);
                return;
            }
            int least = HIGHEST_PLACE;
            int greatest = LOWEST_PLACE;
            for (int corner = 0; corner < 4; corner++) {
                boolean xHigh = (corner & 1) != 0;
                boolean yHigh = (corner & 2) != 0;
                if ((xHigh && isPoint(x)) || (yHigh && isPoint(y))) {
                    continue;
                }
                int xBits = Floats.bitsAt(xHigh ? high[x] : low[x]);
                int yBits = Floats.bitsAt(yHigh ? high[y] : low[y]);
                int bits = Arithmetic.ofTwo(kind, xBits, yBits);
                if (Floats.isNone(bits)) {
                    putAll(i);
                    return;
                }
                least = Math.min(least, Floats.placeOf(bits));
                greatest = Math.max(greatest, Floats.placeOf(bits));
            }
            put(i, least, greatest, none[x] || none[y]);
        }

        private boolean cornersTellTooLittle(int kind, int x, int y) {
            if (kind == PRODUCT) {
                return (hasZero(x) && endsInfinite(y)) || (hasZero(y) && endsInfinite(x));
            }
            return kind == QUOTIENT && (hasZero(y) || (endsInfinite(x) && endsInfinite(y)));
        }

        private void fillRemainder(int i, int x, int y) {
            if (isPoint(x) && isPoint(y) && !none[x] && !none[y]) {
                putValue(i, Arithmetic.ofTwo(REMAINDER, Floats.bitsAt(low[x]), Floats.bitsAt(low[y])));
            } else {
                putAll(i);
            }
        }

        private boolean isPoint(int i) {
            return low[i] == high[i];
        }

        private boolean hasZero(int i) {
            return low[i] <= 0 && high[i] >= PLACE_OF_MINUS_ZERO;
        }

        private boolean endsInfinite(int i) {
            return low[i] == LOWEST_PLACE || high[i] == HIGHEST_PLACE;
        }
    }

    /** RULES as they came. */
    private static final class Rules {
        private final int[] kind = new int[RULE_LIMIT];
        private final int[] a = new int[RULE_LIMIT];
        private final int[] b = new int[RULE_LIMIT];
        int count = 0;

        boolean has(int i) {
            return i >= 0 && i < count;
        }

        int add(int newKind, int newA, int newB) {
            kind[count] = newKind;
            a[count] = newA;
            b[count] = newB;
            count++;
            return count - 1;
        }

        int clear() {
            int were = count;
            count = 0;
            return were;
        }

        /** A bit for each NODE that this RULE rests on. */
        long restOn(int i, Nodes nodes) {
            return nodes.rests[a[i]] | nodes.rests[b[i]];
        }

        long allRestOn(Nodes nodes) {
            long all = 0;
            for (int i = 0; i < count; i++) {
                all |= restOn(i, nodes);
            }
            return all;
        }

        boolean isTrue(int i, int[] values) {
            int one = values[a[i]];
            int other = values[b[i]];
            if (kind[i] == IS_NONE || kind[i] == IS_NUMBER) {
                return Floats.isNone(one) == (kind[i] == IS_NONE);
            }
            if (Floats.isNone(one) || Floats.isNone(other)) {
                return kind[i] == OTHER;
            }
            int order = Integer.compare(Floats.rank(Floats.placeOf(one)), Floats.rank(Floats.placeOf(other)));
            switch (kind[i]) {
                case LESS:
                    return order < 0;
                case AT_MOST:
                    return order <= 0;
                case SAME:
                    return order == 0;
                default:
                    return order != 0;
            }
        }

        boolean areTrue(int[] values) {
            for (int i = 0; i < count; i++) {
                if (!isTrue(i, values)) {
                    return false;
                }
            }
            return true;
        }

        int verdict(int i, Spans spans) {
            switch (kind[i]) {
                case LESS:
                case AT_MOST:
                    return verdictOfOrder(kind[i] == LESS, a[i], b[i], spans);
                case SAME:
                    return verdictOfSame(a[i], b[i], spans);
                case OTHER:
                    return turned(verdictOfSame(a[i], b[i], spans));
                case IS_NONE:
                    return verdictOfNone(a[i], spans);
                default:
                    return turned(verdictOfNone(a[i], spans));
            }
        }

        int verdictOfAll(Spans spans) {
            int all = YES;
            for (int i = 0; i < count; i++) {
                int one = verdict(i, spans);
                if (one == NO) {
                    return NO;
                }
                if (one == PERHAPS) {
                    all = PERHAPS;
                }
            }
            return all;
        }

        private static int turned(int verdict) {
            return verdict == PERHAPS ? PERHAPS : YES - verdict;
        }

        private static int verdictOfOrder(boolean strict, int one, int other, Spans spans) {
            if (!spans.some[one] || !spans.some[other]) {
                return NO;
            }
            int best = Integer.compare(Floats.rank(spans.low[one]), Floats.rank(spans.high[other]));
            if (strict ? best >= 0 : best > 0) {
                return NO;
            }
            int worst = Integer.compare(Floats.rank(spans.high[one]), Floats.rank(spans.low[other]));
            boolean always = strict ? worst < 0 : worst <= 0;
            return always && !spans.none[one] && !spans.none[other] ? YES : PERHAPS;
        }

        private static int verdictOfSame(int one, int other, Spans spans) {
            if (!spans.some[one] || !spans.some[other]) {
                return NO;
            }
            int low = Floats.rank(spans.low[one]);
            int high = Floats.rank(spans.high[one]);
            int otherLow = Floats.rank(spans.low[other]);
            int otherHigh = Floats.rank(spans.high[other]);
            if (high < otherLow || otherHigh < low) {
                return NO;
            }
            boolean same = low == high && otherLow == otherHigh && low == otherLow;
            return same && !spans.none[one] && !spans.none[other] ? YES : PERHAPS;
        }

        private static int verdictOfNone(int one, Spans spans) {
            if (!spans.some[one]) {
                return YES;
            }
            return spans.none[one] ? PERHAPS : NO;
        }
    }

    /**
     * Halving goes on with the lower half and lays the other one aside. VARIABLES ahead of the halved
     * one are at one PLACE by then and stay so until it is taken up, and those behind it still have
     * their whole RANGES: so one RANGE is all that has to be laid aside.
     */
    private static final class Search {
        /** A RANGE has less than 2^32 PLACES: 32 halvings of each VARIABLE leave one. */
        private static final int ASIDE_LIMIT = 32 * VARIABLES;

        private final Nodes nodes;
        private final Rules rules;
        private final Spans spans;
        private final Box ranges;
        private final int[] asideVariable = new int[ASIDE_LIMIT];
        private final int[] asideLow = new int[ASIDE_LIMIT];
        private final int[] asideHigh = new int[ASIDE_LIMIT];
        private int aside = 0;
        final Box box = new Box();
        boolean hasRun = false;
        int answer = NO;
        int looked = 0;
        int halved = 0;

        Search(Nodes nodes, Rules rules, Spans spans, Box ranges) {
            this.nodes = nodes;
            this.rules = rules;
            this.spans = spans;
            this.ranges = ranges;
        }

        int run(int work) {
            start();
            long needed = rules.allRestOn(nodes);
            for (int i = 0; i < work; i++) {
                looked++;
                spans.fill(box, needed);
                int verdict = rules.verdictOfAll(spans);
                int wide = box.firstWide();
                if (verdict == PERHAPS && wide == VARIABLES) {
                    verdict = isTrueHere() ? YES : NO;
                }
                if (verdict == YES) {
                    return end(YES);
                }
                if (verdict == PERHAPS) {
                    halve(wide);
                } else if (aside == 0) {
                    return end(NO);
                } else {
                    takeUp();
                }
            }
            return end(PERHAPS);
        }

        private void start() {
            box.follow(ranges);
            aside = 0;
            looked = 0;
            halved = 0;
        }

        private int end(int newAnswer) {
            hasRun = true;
            answer = newAnswer;
            return newAnswer;
        }

        private boolean isTrueHere() {
            nodes.evaluate(box.low);
            return rules.areTrue(nodes.values);
        }

        private void halve(int v) {
            int middle = (int) (((long) box.low[v] + box.high[v]) >> 1);
            if (aside < ASIDE_LIMIT) {
                asideVariable[aside] = v;
                asideLow[aside] = middle + 1;
                asideHigh[aside] = box.high[v];
                aside++;
            }
            box.put(v, box.low[v], middle);
            halved++;
        }

        private void takeUp() {
            aside--;
            int v = asideVariable[aside];
            box.put(v, asideLow[aside], asideHigh[aside]);
            for (int behind = v + 1; behind < VARIABLES; behind++) {
                box.put(behind, ranges.low[behind], ranges.high[behind]);
            }
        }
    }
}
