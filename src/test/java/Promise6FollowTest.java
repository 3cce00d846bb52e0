/** Promise 6: follow makes a PLACE of another kind. */
public final class Promise6FollowTest {
    private static final double ENDLESS = Double.POSITIVE_INFINITY;
    private static Due due;

    public static void main(String[] args) {
        due = new Due("Promise6FollowTest");
        toWhole();
        toLong();
        toSingle();
        toDouble();
        sameKind();
        nothingElse();
        wrongAxes();
        due.end();
    }

    private static void one(int to, int from, long before, long after) {
        ServoDesk desk = new ServoDesk();
        desk.axis(from);
        desk.axis(to);
        desk.set(0, Due.PLACE, before);
        desk.set(1, Due.PLACE, Due.bitsOf(to, 3));
        due.yes("follow", desk.follow(1, 0));
        due.same("kind " + from + " at " + before + " to kind " + to, desk.bits(1, Due.PLACE), after);
        due.same("the other's PLACE", desk.bits(0, Due.PLACE), before);
    }

    private static void number(int to, int from, double before, double after) {
        one(to, from, Due.bitsOf(from, before), Due.bitsOf(to, after));
    }

    private static void toWhole() {
        one(Due.WHOLE, Due.LONG, 0x180000000L, -2147483648L);
        one(Due.WHOLE, Due.LONG, 0xffffffff00000007L, 7);
        one(Due.WHOLE, Due.LONG, Long.MAX_VALUE, -1);
        one(Due.WHOLE, Due.LONG, Long.MIN_VALUE, 0);
        one(Due.WHOLE, Due.LONG, -5, -5);
        for (int from = 2; from < 4; from++) {
            towardsZero(Due.WHOLE, from);
            number(Due.WHOLE, from, 2147483648.0, 2147483647);
            number(Due.WHOLE, from, -2147483648.0, -2147483648.0);
            number(Due.WHOLE, from, -2147483904.0, -2147483648.0);
            number(Due.WHOLE, from, 1e30, 2147483647);
            number(Due.WHOLE, from, -1e30, -2147483648.0);
            number(Due.WHOLE, from, ENDLESS, 2147483647);
            number(Due.WHOLE, from, -ENDLESS, -2147483648.0);
        }
        number(Due.WHOLE, Due.SINGLE, 2147483520.0, 2147483520.0);
        number(Due.WHOLE, Due.DOUBLE, 2147483646.75, 2147483646.0);
        number(Due.WHOLE, Due.DOUBLE, -2147483648.75, -2147483648.0);
    }

    private static void toLong() {
        one(Due.LONG, Due.WHOLE, -2147483648L, -2147483648L);
        one(Due.LONG, Due.WHOLE, 2147483647L, 2147483647L);
        for (int from = 2; from < 4; from++) {
            towardsZero(Due.LONG, from);
            number(Due.LONG, from, 2147483648.0, 2147483648.0);
            one(Due.LONG, from, Due.bitsOf(from, 0x1p62), 1L << 62);
            one(Due.LONG, from, Due.bitsOf(from, 0x1p63), Long.MAX_VALUE);
            one(Due.LONG, from, Due.bitsOf(from, -0x1p63), Long.MIN_VALUE);
            one(Due.LONG, from, Due.bitsOf(from, -0x1.8p63), Long.MIN_VALUE);
            one(Due.LONG, from, Due.bitsOf(from, 1e30), Long.MAX_VALUE);
            one(Due.LONG, from, Due.bitsOf(from, ENDLESS), Long.MAX_VALUE);
            one(Due.LONG, from, Due.bitsOf(from, -ENDLESS), Long.MIN_VALUE);
        }
        one(Due.LONG, Due.DOUBLE, Due.bitsOf(Due.DOUBLE, -9223372036854774784.0), -9223372036854774784L);
        one(Due.LONG, Due.DOUBLE, Due.bitsOf(Due.DOUBLE, 4503599627370495.5), 4503599627370495L);
    }

    private static void towardsZero(int to, int from) {
        number(to, from, 0, 0);
        number(to, from, -0.0, 0);
        number(to, from, 0.75, 0);
        number(to, from, -0.75, 0);
        number(to, from, 1, 1);
        number(to, from, 1.75, 1);
        number(to, from, -1.75, -1);
        number(to, from, 100.5, 100);
        number(to, from, -100.5, -100);
        one(to, from, 1, 0);
        one(to, from, Due.bitsOf(from, -0.0) | 1, 0);
    }

    private static void toSingle() {
        for (int from = 0; from < 2; from++) {
            one(Due.SINGLE, from, 0, 0);
            one(Due.SINGLE, from, 1, 0x3f800000L);
            one(Due.SINGLE, from, -1, 0xffffffffbf800000L);
            one(Due.SINGLE, from, 16777217, 0x4b800000L);
            one(Due.SINGLE, from, 16777219, 0x4b800002L);
            one(Due.SINGLE, from, -16777219, 0xffffffffcb800002L);
            one(Due.SINGLE, from, 2147483647, 0x4f000000L);
            one(Due.SINGLE, from, -2147483648L, 0xffffffffcf000000L);
        }
        one(Due.SINGLE, Due.LONG, Long.MAX_VALUE, 0x5f000000L);
        one(Due.SINGLE, Due.LONG, Long.MIN_VALUE, 0xffffffffdf000000L);
        // Nearest in one step: by way of a double this one would fall on the middle of two and become the even one.
        one(Due.SINGLE, Due.LONG, 0x4000004000000001L, 0x5e800001L);
        double[][] rows = {
            {0, 0}, {-0.0, -0.0}, {1.5, 1.5}, {ENDLESS, ENDLESS}, {-ENDLESS, -ENDLESS}, {1e300, ENDLESS},
            {-1e300, -ENDLESS}, {1e-300, 0}, {-1e-300, -0.0}, {Double.MIN_VALUE, 0}, {-Double.MIN_VALUE, -0.0},
            {0x1.fffffep127, 0x1.fffffep127}, {0x1.fffffefffffffp127, 0x1.fffffep127}, {0x1.ffffffp127, ENDLESS},
            {0x1p-149, 0x1p-149}, {0x1p-150, 0}, {-0x1p-150, -0.0}, {0x1.0000000000001p-150, 0x1p-149},
            {0x1.8p-149, 0x1p-148}, {0x1.4p-148, 0x1p-148}, {0x1.cp-148, 0x1p-147}, {0x1.ffffffp-127, 0x1p-126},
            {0x1.000001p0, 1}, {0x1.000003p0, 0x1.000004p0}, {0x1.0000010000001p0, 0x1.000002p0}
        };
        for (double[] row : rows) {
            number(Due.SINGLE, Due.DOUBLE, row[0], row[1]);
        }
    }

    private static void toDouble() {
        for (int from = 0; from < 2; from++) {
            one(Due.DOUBLE, from, 0, 0);
            one(Due.DOUBLE, from, -1, 0xbff0000000000000L);
            one(Due.DOUBLE, from, 2147483647, 0x41dfffffffc00000L);
            one(Due.DOUBLE, from, -2147483648L, 0xc1e0000000000000L);
        }
        one(Due.DOUBLE, Due.LONG, 9007199254740993L, 0x4340000000000000L);
        one(Due.DOUBLE, Due.LONG, 9007199254740995L, 0x4340000000000002L);
        one(Due.DOUBLE, Due.LONG, Long.MAX_VALUE, 0x43e0000000000000L);
        one(Due.DOUBLE, Due.LONG, Long.MIN_VALUE, 0xc3e0000000000000L);
        for (double number : new double[] {0, -0.0, 1.5, -100.5, ENDLESS, -ENDLESS, 0x1.fffffep127, 0x1p-126,
            0x1.fffffcp-127, 0x1.8p-148, 0x1p-149, -0x1p-149}) {
            number(Due.DOUBLE, Due.SINGLE, number, number);
        }
    }

    private static void sameKind() {
        for (int kind = 0; kind < 4; kind++) {
            for (long edge : Edges.of(kind)) {
                one(kind, kind, edge, edge);
                ServoDesk desk = Due.deskAt(kind, edge);
                due.yes("follow of itself", desk.follow(0, 0));
                due.same("PLACE after it", desk.bits(0, Due.PLACE), edge);
            }
        }
    }

    private static void nothingElse() {
        ServoDesk desk = Due.deskAt(Due.DOUBLE, Due.bitsOf(Due.DOUBLE, 100.5));
        desk.axis(Due.WHOLE);
        long[] written = {1, -4, 4, 5, 6};
        for (int what = 0; what < 5; what++) {
            desk.set(1, what, written[what]);
        }
        due.yes("follow", desk.follow(1, 0));
        due.same("PLACE beyond HIGH is not held", desk.bits(1, Due.PLACE), 100);
        for (int what = 1; what < 5; what++) {
            due.same("number " + what + " after follow", desk.bits(1, what), written[what]);
        }
    }

    private static void wrongAxes() {
        ServoDesk desk = Due.deskAt(Due.WHOLE, 5);
        desk.axis(Due.LONG);
        for (int wrong : new int[] {-1, 2, 8, Integer.MIN_VALUE, Integer.MAX_VALUE}) {
            due.no("follow of axis " + wrong, desk.follow(0, wrong));
            due.no("follow by axis " + wrong, desk.follow(wrong, 0));
            due.no("follow of and by axis " + wrong, desk.follow(wrong, wrong));
        }
        due.same("PLACE 0 after wrong follows", desk.bits(0, Due.PLACE), 5);
        due.same("PLACE 1 after wrong follows", desk.bits(1, Due.PLACE), 0);
    }
}
