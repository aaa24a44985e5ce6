/** What the machine itself answers for the kinds of NODES, on bits; the tests' own source of VALUES. */
final class Machine {
    static final int NONE = 0x7fc00000;

    private Machine() {
    }

    static boolean takesTwo(int kind) {
        return kind >= 2 && kind <= 5 || kind == 8 || kind == 9 || kind == 14;
    }

    static int apply(int kind, int xBits, int yBits) {
        float x = Float.intBitsToFloat(xBits);
        float y = Float.intBitsToFloat(yBits);
        return Float.floatToIntBits(switch (kind) {
            case 2 -> x + y;
            case 3 -> x - y;
            case 4 -> x * y;
            case 5 -> x / y;
            case 6 -> -x;
            case 7 -> Math.abs(x);
            case 8 -> Math.min(x, y);
            case 9 -> Math.max(x, y);
            case 10 -> (float) Math.floor(x);
            case 11 -> (float) Math.ceil(x);
            case 12 -> (float) Math.rint(x);
            case 13 -> (float) (int) x;
            case 14 -> x % y;
            case 15 -> (float) Math.sqrt(x);
            default -> throw new IllegalArgumentException("kind " + kind);
        });
    }

    static boolean isNone(int bits) {
        return Float.isNaN(Float.intBitsToFloat(bits));
    }

    static int place(int bits) {
        return bits >= 0 ? bits : -1 - (bits & 0x7fffffff);
    }

    static int placeOf(float number) {
        return place(Float.floatToIntBits(number));
    }

    static int bits(int place) {
        return place >= 0 ? place : (-1 - place) | 0x80000000;
    }

    static float at(int place) {
        return Float.intBitsToFloat(bits(place));
    }

    static boolean compare(int kind, float a, float b) {
        return switch (kind) {
            case 0 -> a < b;
            case 1 -> a <= b;
            case 2 -> a == b;
            case 3 -> a != b;
            case 4 -> Float.isNaN(a);
            case 5 -> !Float.isNaN(a);
            default -> throw new IllegalArgumentException("kind " + kind);
        };
    }
}
