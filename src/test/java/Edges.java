/** Numbers at which kinds and roundings change, as bits, and a fixed sequence that looks like chance. */
final class Edges {
    private static final long[] WHOLES = {
        0, 1, -1, 2, -2, 3, -3, 5, -5, 7, 100, -100, 16777215, 16777216, 16777217, 16777218, 16777219, -16777217,
        -16777219, 33554434, 33554438, 2147483583, 2147483584, 2147483585, 2147483646, 2147483647, -2147483647,
        -2147483648
    };
    private static final long[] LONGS = {
        2147483648L, -2147483649L, 4294967295L, 4294967296L, 4294967297L, -4294967296L, 9007199254740991L,
        9007199254740992L, 9007199254740993L, 9007199254740994L, 9007199254740995L, -9007199254740993L,
        36028797018963969L, 36028797018963970L, 4611686018427387904L, 9223371761976868863L, 9223371761976868864L,
        9223371761976868865L, 9223372036854775295L, 9223372036854775296L, 9223372036854775297L,
        9223372036854775806L, 9223372036854775807L, -9223372036854775807L, -9223372036854775808L
    };
    private static final double[] FLOATS = {
        0.0, 0.25, 0.5, 0.75, 1.0, 1.25, 1.5, 1.75, 2.0, 2.5, 3.0, 3.5, 4.5, 7.0, 7.5, 100.0, 100.5, 1000000.5,
        4194303.5, 4194304.5, 8388607.0, 8388607.5, 8388608.0, 8388609.0, 16777215.0, 16777216.0, 2147483520.0,
        2147483647.0, 2147483647.5, 2147483648.0, 2147483649.0, 4294967296.0, 2251799813685247.75,
        2251799813685248.5, 4503599627370495.5, 4503599627370496.0, 4503599627370497.0, 9007199254740991.0,
        9007199254740992.0, 9223371487098961920.0, 9223372036854774784.0, 9223372036854775808.0,
        18446744073709551616.0, 1e30, 0x1.fffffep127, 0x1.fffffefffffffp127, 0x1.ffffffp127, 0x1p128, 1e300,
        Double.MAX_VALUE, Double.POSITIVE_INFINITY, 0x1p-126, 0x1.fffffcp-127, 0x1.fffffep-127,
        0x1.ffffffp-127, 0x1p-148, 0x1.8p-149, 0x1.4p-148, 0x1.cp-148, 0x1p-149, 0x1.0000000000001p-150, 0x1p-150,
        0x1.fffffffffffffp-151, 0x1p-151, 1e-300, 0x1p-1022, 0x0.fffffffffffffp-1022, Double.MIN_VALUE
    };

    private Edges() {
    }

    /** The edges of a kind, each floating one with its neighbours and with both signs. */
    static long[] of(int kind) {
        if (!Due.floating(kind)) {
            return kind == Due.WHOLE ? WHOLES.clone() : joined(WHOLES, LONGS);
        }
        long[] edges = new long[FLOATS.length * 6];
        int count = 0;
        for (double number : FLOATS) {
            for (int step = -1; step <= 1; step++) {
                double near = kind == Due.SINGLE ? stepped((float) number, step) : stepped(number, step);
                edges[count++] = Due.bitsOf(kind, near);
                edges[count++] = Due.bitsOf(kind, -near);
            }
        }
        return edges;
    }

    /** Bits of what is no number, of a floating kind. */
    static long[] noNumbers(int kind) {
        if (kind == Due.SINGLE) {
            return new long[] {
                0x7f800001, 0x7fc00000, 0x7fffffff, 0xff800001, 0xffc00000, 0xffffffff, 0xff800001L, 0x7fc00000L << 32 | 0x7fc00000L
            };
        }
        return new long[] {
            0x7ff0000000000001L, 0x7ff0000080000000L, 0x7ff8000000000000L, 0x7fffffffffffffffL, 0xfff0000000000001L,
            0xfff8000000000000L, -1L
        };
    }

    /** The next value of a fixed sequence (splitmix64), so that every run of a test is the same. */
    static long mixed(long index) {
        long value = index * 0x9e3779b97f4a7c15L;
        value = (value ^ value >>> 30) * 0xbf58476d1ce4e5b9L;
        value = (value ^ value >>> 27) * 0x94d049bb133111ebL;
        return value ^ value >>> 31;
    }

    private static float stepped(float number, int step) {
        return step < 0 ? Math.nextDown(number) : step > 0 ? Math.nextUp(number) : number;
    }

    private static double stepped(double number, int step) {
        return step < 0 ? Math.nextDown(number) : step > 0 ? Math.nextUp(number) : number;
    }

    private static long[] joined(long[] first, long[] second) {
        long[] all = new long[first.length + second.length];
        System.arraycopy(first, 0, all, 0, first.length);
        System.arraycopy(second, 0, all, first.length, second.length);
        return all;
    }
}
