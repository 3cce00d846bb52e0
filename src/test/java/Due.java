/** Counts the answers of one test, prints those that are not due, and ends the test with exit code 1 if there was one. */
final class Due {
    static final int WHOLE = 0;
    static final int LONG = 1;
    static final int SINGLE = 2;
    static final int DOUBLE = 3;

    static final int PLACE = 0;
    static final int LOW = 1;
    static final int HIGH = 2;
    static final int BAND = 3;
    static final int WAY = 4;

    private static final int MOST_PRINTED = 50;

    private final String test;
    private int right = 0;
    private int wrong = 0;

    Due(String test) {
        this.test = test;
    }

    void same(String call, long got, long want) {
        if (got == want) {
            right++;
            return;
        }
        wrong++;
        if (wrong <= MOST_PRINTED) {
            System.out.println(test + ": " + call + " answered " + got + ", due is " + want);
        }
    }

    void yes(String call, boolean got) {
        same(call, got ? 1 : 0, 1);
    }

    void no(String call, boolean got) {
        same(call, got ? 1 : 0, 0);
    }

    void end() {
        System.out.println(test + ": " + right + " answers as due, " + wrong + " not");
        if (wrong != 0 || right == 0) {
            System.exit(1);
        }
    }

    /** The bits of a number that is written as a Java double, in a kind that can hold it. */
    static long bitsOf(int kind, double number) {
        switch (kind) {
            case SINGLE: return Float.floatToRawIntBits((float) number);
            case DOUBLE: return Double.doubleToRawLongBits(number);
            default: return (long) number;
        }
    }

    static boolean floating(int kind) {
        return kind == SINGLE || kind == DOUBLE;
    }

    static long least(int kind) {
        switch (kind) {
            case WHOLE: return Integer.MIN_VALUE;
            case LONG: return Long.MIN_VALUE;
            default: return bitsOf(kind, Double.NEGATIVE_INFINITY);
        }
    }

    static long greatest(int kind) {
        switch (kind) {
            case WHOLE: return Integer.MAX_VALUE;
            case LONG: return Long.MAX_VALUE;
            default: return bitsOf(kind, Double.POSITIVE_INFINITY);
        }
    }

    /** A desk whose axis 0 is of a kind and stands at a place. */
    static ServoDesk deskAt(int kind, long place) {
        ServoDesk desk = new ServoDesk();
        desk.axis(kind);
        desk.set(0, PLACE, place);
        return desk;
    }
}
