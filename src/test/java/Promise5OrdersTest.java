/** Promise 5, the orders 1 to 13: what each one makes of written numbers, for each kind. */
public final class Promise5OrdersTest {
    private static final double ENDLESS = Double.POSITIVE_INFINITY;
    private static Due due;

    public static void main(String[] args) {
        due = new Due("Promise5OrdersTest");
        for (int kind = 0; kind < 4; kind++) {
            everyKind(kind);
        }
        for (int kind = 2; kind < 4; kind++) {
            floating(kind);
            roundings(kind);
        }
        wholes(Due.WHOLE, Integer.MIN_VALUE, Integer.MAX_VALUE);
        wholes(Due.LONG, Long.MIN_VALUE, Long.MAX_VALUE);
        smallAndLarge();
        due.end();
    }

    /** Gives axis 0 five numbers, does one order and looks at all five. */
    private static void one(int kind, int order, double[] before, double[] after) {
        ServoDesk desk = new ServoDesk();
        desk.axis(kind);
        for (int what = 0; what < 5; what++) {
            desk.set(0, what, Due.bitsOf(kind, before[what]));
        }
        due.same("order " + order, desk.orders(0, order), 1);
        for (int what = 0; what < 5; what++) {
            due.same("kind " + kind + ", number " + what + " after order " + order + " at " + before[0],
                desk.bits(0, what), Due.bitsOf(kind, after[what]));
        }
    }

    private static double[] n(double place, double low, double high, double band, double way) {
        return new double[] {place, low, high, band, way};
    }

    private static void place(int kind, int order, double before, double after) {
        one(kind, order, n(before, -9, 9, 2, 1), n(after, -9, 9, 2, 1));
    }

    private static void everyKind(int kind) {
        place(kind, 1, 10, 9);
        place(kind, 1, -10, -9);
        place(kind, 1, 4, 4);
        one(kind, 1, n(0, 7, -7, 2, 1), n(7, 7, -7, 2, 1));
        place(kind, 2, -4, 4);
        place(kind, 2, 4, 4);
        for (int order = 3; order <= 5; order++) {
            place(kind, order, -4, -4);
            place(kind, order, 5, 5);
            place(kind, order, 0, 0);
        }
        one(kind, 6, n(4, -9, 9, 2, 7), n(4, -9, 9, 2, 1));
        one(kind, 6, n(-4, -9, 9, 2, 7), n(-4, -9, 9, 2, -1));
        one(kind, 6, n(0, -9, 9, 2, 7), n(0, -9, 9, 2, 0));
        one(kind, 7, n(4, -9, 9, 2, -7), n(-4, -9, 9, 2, -7));
        one(kind, 7, n(-4, -9, 9, 2, -7), n(-4, -9, 9, 2, -7));
        one(kind, 7, n(-4, -9, 9, 2, 7), n(4, -9, 9, 2, 7));
        one(kind, 7, n(-4, -9, 9, 2, 0), n(4, -9, 9, 2, 0));
        one(kind, 8, n(12, -9, 9, 2, 1), n(12, -9, 12, 2, 1));
        one(kind, 8, n(-12, -9, 9, 2, 1), n(-12, -12, 9, 2, 1));
        one(kind, 8, n(3, -9, 9, 2, 1), n(3, -9, 9, 2, 1));
        one(kind, 8, n(3, 9, -9, 2, 1), n(3, 3, 3, 2, 1));
        place(kind, 9, 2, 0);
        place(kind, 9, 3, 3);
        place(kind, 9, -3, -3);
        one(kind, 9, n(2, -9, 9, -2, 1), n(0, -9, 9, -2, 1));
        one(kind, 9, n(3, -9, 9, -2, 1), n(3, -9, 9, -2, 1));
        one(kind, 10, n(5, -9, 9, 2, 1), n(5, 5, 5, 2, 1));
        one(kind, 11, n(5, -9, 8, 2, 1), n(5, 8, -9, 2, 1));
        one(kind, 12, n(5, -9, 8, 2, 1), n(-9, -9, 8, 2, 1));
        one(kind, 13, n(5, -9, 8, 2, 1), n(8, -9, 8, 2, 1));
    }

    private static void floating(int kind) {
        one(kind, 1, n(-0.0, 0, 9, 2, 1), n(0, 0, 9, 2, 1));
        one(kind, 1, n(0, -9, -0.0, 2, 1), n(-0.0, -9, -0.0, 2, 1));
        one(kind, 1, n(-0.0, -9, 0, 2, 1), n(-0.0, -9, 0, 2, 1));
        one(kind, 1, n(0, -0.0, 9, 2, 1), n(0, -0.0, 9, 2, 1));
        one(kind, 1, n(ENDLESS, -ENDLESS, ENDLESS, 2, 1), n(ENDLESS, -ENDLESS, ENDLESS, 2, 1));
        one(kind, 1, n(-ENDLESS, -1.5, ENDLESS, 2, 1), n(-1.5, -1.5, ENDLESS, 2, 1));
        place(kind, 2, -0.0, 0);
        place(kind, 2, -ENDLESS, ENDLESS);
        one(kind, 6, n(-0.0, -9, 9, 2, 7), n(-0.0, -9, 9, 2, -0.0));
        one(kind, 6, n(-ENDLESS, -9, 9, 2, 7), n(-ENDLESS, -9, 9, 2, -1));
        one(kind, 6, n(ENDLESS, -9, 9, 2, 7), n(ENDLESS, -9, 9, 2, 1));
        one(kind, 6, n(0.25, -9, 9, 2, 7), n(0.25, -9, 9, 2, 1));
        one(kind, 7, n(0, -9, 9, 2, -0.0), n(-0.0, -9, 9, 2, -0.0));
        one(kind, 7, n(3, -9, 9, 2, -0.0), n(-3, -9, 9, 2, -0.0));
        one(kind, 7, n(-0.0, -9, 9, 2, 0), n(0, -9, 9, 2, 0));
        one(kind, 7, n(ENDLESS, -9, 9, 2, -ENDLESS), n(-ENDLESS, -9, 9, 2, -ENDLESS));
        one(kind, 8, n(0, -9, -0.0, 2, 1), n(0, -9, 0, 2, 1));
        one(kind, 8, n(-0.0, 0, 9, 2, 1), n(-0.0, -0.0, 9, 2, 1));
        one(kind, 8, n(0, -0.0, 9, 2, 1), n(0, -0.0, 9, 2, 1));
        one(kind, 8, n(-0.0, -9, 0, 2, 1), n(-0.0, -9, 0, 2, 1));
        place(kind, 9, -2, -0.0);
        place(kind, 9, -0.0, -0.0);
        one(kind, 9, n(-0.0, -9, 9, 0, 1), n(-0.0, -9, 9, 0, 1));
        one(kind, 9, n(0, -9, 9, -0.0, 1), n(0, -9, 9, -0.0, 1));
        one(kind, 9, n(-ENDLESS, -9, 9, ENDLESS, 1), n(-0.0, -9, 9, ENDLESS, 1));
        one(kind, 9, n(ENDLESS, -9, 9, 2, 1), n(ENDLESS, -9, 9, 2, 1));
        one(kind, 10, n(2.5, -9, 9, 2, 1), n(2.5, 2, 3, 2, 1));
        one(kind, 10, n(-2.5, -9, 9, 2, 1), n(-2.5, -3, -2, 2, 1));
        one(kind, 10, n(-0.5, -9, 9, 2, 1), n(-0.5, -1, -0.0, 2, 1));
        one(kind, 10, n(-ENDLESS, -9, 9, 2, 1), n(-ENDLESS, -ENDLESS, -ENDLESS, 2, 1));
        one(kind, 11, n(5, 0, -0.0, 2, 1), n(5, -0.0, 0, 2, 1));
        one(kind, 12, n(0, -0.0, 9, 2, 1), n(-0.0, -0.0, 9, 2, 1));
        one(kind, 13, n(0, -9, -0.0, 2, 1), n(-0.0, -9, -0.0, 2, 1));
    }

    /** Rows of a number and what DOWN, UP and NEAR make of it. */
    private static void roundings(int kind) {
        double[][] rows = {
            {0, 0, 0, 0}, {0.25, 0, 1, 0}, {0.5, 0, 1, 0}, {0.75, 0, 1, 1}, {1, 1, 1, 1}, {2, 2, 2, 2}, {1.25, 1, 2, 1}, {1.5, 1, 2, 2},
            {1.75, 1, 2, 2}, {2.5, 2, 3, 2}, {3.5, 3, 4, 4}, {4.5, 4, 5, 4}, {7.75, 7, 8, 8}, {1023.5, 1023, 1024, 1024},
            {4194303.5, 4194303, 4194304, 4194304}, {8388607.5, 8388607, 8388608, 8388608},
            {8388609, 8388609, 8388609, 8388609}, {ENDLESS, ENDLESS, ENDLESS, ENDLESS}
        };
        for (double[] row : rows) {
            place(kind, 3, row[0], row[1]);
            place(kind, 4, row[0], row[2]);
            place(kind, 5, row[0], row[3]);
            place(kind, 3, -row[0], -row[2]);
            place(kind, 4, -row[0], -row[1]);
            place(kind, 5, -row[0], -row[3]);
        }
    }

    private static void wholes(int kind, long least, long greatest) {
        bitsAfter(kind, 2, least, 0, 0, least);
        bitsAfter(kind, 2, least + 1, 0, 0, greatest);
        bitsAfter(kind, 7, least, 0, -1, least);
        bitsAfter(kind, 7, least, 0, 1, least);
        bitsAfter(kind, 7, greatest, 0, -1, least + 1);
        bitsAfter(kind, 7, least + 1, 0, 1, greatest);
        // The least number's size is itself, and so it is above nothing, and nothing else is not above it.
        bitsAfter(kind, 9, least, 0, 0, 0);
        bitsAfter(kind, 9, least, least, 0, 0);
        bitsAfter(kind, 9, 0, least, 0, 0);
        bitsAfter(kind, 9, 1, least, 0, 1);
        bitsAfter(kind, 9, -1, greatest, 0, 0);
        for (int order = 3; order <= 5; order++) {
            bitsAfter(kind, order, least, 0, 0, least);
            bitsAfter(kind, order, greatest, 0, 0, greatest);
        }
        ServoDesk desk = Due.deskAt(kind, least);
        due.same("LOOK at the least", desk.orders(0, 6), 1);
        due.same("WAY after it", desk.bits(0, Due.WAY), -1);
    }

    private static void bitsAfter(int kind, int order, long place, long band, long way, long after) {
        ServoDesk desk = Due.deskAt(kind, place);
        desk.set(0, Due.BAND, band);
        desk.set(0, Due.WAY, way);
        due.same("order " + order, desk.orders(0, order), 1);
        due.same("kind " + kind + ", order " + order + " at " + place, desk.bits(0, Due.PLACE), after);
    }

    private static void smallAndLarge() {
        long[] smallest = {0, 0, 1, 1};
        long[] largest = {0, 0, 0x7f7fffffL, 0x7fefffffffffffffL};
        long[] ones = {0, 0, 0x3f800000L, 0x3ff0000000000000L};
        for (int kind = 2; kind < 4; kind++) {
            long sign = Due.bitsOf(kind, -0.0);
            bitsAfter(kind, 3, smallest[kind], 0, 0, 0);
            bitsAfter(kind, 4, smallest[kind], 0, 0, ones[kind]);
            bitsAfter(kind, 5, smallest[kind], 0, 0, 0);
            bitsAfter(kind, 3, smallest[kind] | sign, 0, 0, ones[kind] | sign);
            bitsAfter(kind, 4, smallest[kind] | sign, 0, 0, sign);
            bitsAfter(kind, 5, smallest[kind] | sign, 0, 0, sign);
            bitsAfter(kind, 9, smallest[kind], 0, 0, smallest[kind]);
            bitsAfter(kind, 9, smallest[kind] | sign, smallest[kind], 0, sign);
            for (int order = 3; order <= 5; order++) {
                bitsAfter(kind, order, largest[kind], 0, 0, largest[kind]);
                bitsAfter(kind, order, largest[kind] | sign, 0, 0, largest[kind] | sign);
            }
            ServoDesk desk = Due.deskAt(kind, smallest[kind] | sign);
            due.same("LOOK", desk.orders(0, 6), 1);
            due.same("WAY at the smallest", desk.bits(0, Due.WAY), ones[kind] | sign);
        }
    }
}
