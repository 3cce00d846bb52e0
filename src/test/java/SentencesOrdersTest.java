/** The orders 1 to 13 at their boundaries, with what stands in brackets in the document: a test for each sentence. */
public final class SentencesOrdersTest {
    private static final int[] WHOLE = {Due.WHOLE};
    private static final int[] LONG = {Due.LONG};
    private static final int[] SINGLE = {Due.SINGLE};
    private static final int[] DOUBLE = {Due.DOUBLE};

    private static Due due;

    public static void main(String[] args) {
        due = new Due("SentencesOrdersTest");
        hold();
        size();
        down();
        up();
        near();
        zeroHasTheSignOfPlace();
        endlessStays();
        wholesAreWhole();
        largeOnesAreWhole();
        look();
        turn();
        turnOfWholes();
        widen();
        rest();
        restOfTheLeast();
        grid();
        swap();
        fallAndRise();
        due.end();
    }

    private static void hold() {
        Script.moves(due, "HOLD between the stops and at them", Script.EVERY_KIND, 1, 1, """
            4_ -3_ 5_ 1_ 2_ -> 4_ -3_ 5_ 1_ 2_
            5_ -3_ 5_ 1_ 2_ -> 5_ -3_ 5_ 1_ 2_
            6_ -3_ 5_ 1_ 2_ -> 5_ -3_ 5_ 1_ 2_
            -3_ -3_ 5_ 1_ 2_ -> -3_ -3_ 5_ 1_ 2_
            -4_ -3_ 5_ 1_ 2_ -> -3_ -3_ 5_ 1_ 2_
            9_ 5_ 5_ 1_ 2_ -> 5_ 5_ 5_ 1_ 2_
            """);
        Script.moves(due, "HOLD: the greater one of LOW and .., so LOW where it is above HIGH", Script.EVERY_KIND, 1, 1, """
            0_ 5_ -3_ 1_ 2_ -> 5_ 5_ -3_ 1_ 2_
            9_ 5_ -3_ 1_ 2_ -> 5_ 5_ -3_ 1_ 2_
            -9_ 5_ -3_ 1_ 2_ -> 5_ 5_ -3_ 1_ 2_
            """);
        Script.moves(due, "HOLD at the ends of WHOLE", WHOLE, 1, 1, """
            -2147483648 -2147483648 2147483647 0 0 -> -2147483648 -2147483648 2147483647 0 0
            2147483647 -2147483648 -2147483648 0 0 -> -2147483648 -2147483648 -2147483648 0 0
            -2147483648 2147483647 2147483647 0 0 -> 2147483647 2147483647 2147483647 0 0
            """);
        Script.moves(due, "HOLD at the ends of LONG", LONG, 1, 1, """
            9223372036854775807 -9223372036854775808 -9223372036854775808 0 0 -> -9223372036854775808 -9223372036854775808 -9223372036854775808 0 0
            -9223372036854775808 9223372036854775807 0 0 0 -> 9223372036854775807 9223372036854775807 0 0 0
            4294967296 -1 4294967295 0 0 -> 4294967295 -1 4294967295 0 0
            """);
        Script.moves(due, "HOLD of what is endless", Script.FLOATS, 1, 1, """
            inf_ -inf_ inf_ 0_ 0_ -> inf_ -inf_ inf_ 0_ 0_
            -inf_ -inf_ inf_ 0_ 0_ -> -inf_ -inf_ inf_ 0_ 0_
            inf_ -1.5_ 1.5_ 0_ 0_ -> 1.5_ -1.5_ 1.5_ 0_ 0_
            -inf_ -1.5_ 1.5_ 0_ 0_ -> -1.5_ -1.5_ 1.5_ 0_ 0_
            1.5_ inf_ -inf_ 0_ 0_ -> inf_ inf_ -inf_ 0_ 0_
            """);
        Script.moves(due, "HOLD among numbers below 0, where greater bits are lesser numbers", Script.FLOATS, 1, 1, """
            -2.5_ -4_ -2_ 0_ 0_ -> -2.5_ -4_ -2_ 0_ 0_
            -1.5_ -4_ -2_ 0_ 0_ -> -2_ -4_ -2_ 0_ 0_
            -4.5_ -4_ -2_ 0_ 0_ -> -4_ -4_ -2_ 0_ 0_
            """);
    }

    private static void size() {
        Script.places(due, "SIZE: PLACE without its sign", Script.EVERY_KIND, 2, """
            -3_ -> 3_
            3_ -> 3_
            0_ -> 0_
            """);
        Script.places(due, "SIZE (WHOLE: the least one stays)", WHOLE, 2, """
            -2147483648 -> -2147483648
            -2147483647 -> 2147483647
            2147483647 -> 2147483647
            """);
        Script.places(due, "SIZE (LONG: the least one stays)", LONG, 2, """
            -9223372036854775808 -> -9223372036854775808
            -9223372036854775807 -> 9223372036854775807
            -2147483648 -> 2147483648
            """);
        Script.places(due, "SIZE of floating numbers", Script.FLOATS, 2, """
            -0_ -> 0_
            -inf_ -> inf_
            inf_ -> inf_
            -2.5_ -> 2.5_
            """);
        Script.places(due, "SIZE of the smallest SINGLE", SINGLE, 2, "-0x1p-149_ -> 0x1p-149_");
        Script.places(due, "SIZE of the smallest DOUBLE", DOUBLE, 2, "-0x1p-1074_ -> 0x1p-1074_");
    }

    private static void down() {
        Script.places(due, "DOWN: the greatest whole number that is not above it", Script.FLOATS, 3, """
            0.25_ -> 0_
            1_ -> 1_
            1.75_ -> 1_
            2.5_ -> 2_
            -0.25_ -> -1_
            -1_ -> -1_
            -1.25_ -> -2_
            -7.5_ -> -8_
            -1023.5_ -> -1024_
            """);
        Script.places(due, "DOWN beside whole numbers, SINGLE", SINGLE, 3, """
            0x1p-149_ -> 0_
            -0x1p-149_ -> -1_
            0x1.fffffep-1_ -> 0_
            -0x1.fffffep-1_ -> -1_
            0x1.000002p0_ -> 1_
            -0x1.000002p0_ -> -2_
            0x1.fffffep0_ -> 1_
            8388607.5_ -> 8388607_
            -8388607.5_ -> -8388608_
            """);
        Script.places(due, "DOWN beside whole numbers, DOUBLE", DOUBLE, 3, """
            0x1p-1074_ -> 0_
            -0x1p-1074_ -> -1_
            0x1.fffffffffffffp-1_ -> 0_
            -0x1.fffffffffffffp-1_ -> -1_
            0x1.0000000000001p0_ -> 1_
            -0x1.0000000000001p0_ -> -2_
            0x1.fffffffffffffp0_ -> 1_
            4503599627370495.5_ -> 4503599627370495_
            -4503599627370495.5_ -> -4503599627370496_
            """);
    }

    private static void up() {
        Script.places(due, "UP: the least that is not below it", Script.FLOATS, 4, """
            0.25_ -> 1_
            1_ -> 1_
            1.25_ -> 2_
            7.5_ -> 8_
            1023.5_ -> 1024_
            -0.25_ -> -0_
            -1_ -> -1_
            -1.75_ -> -1_
            -2.5_ -> -2_
            """);
        Script.places(due, "UP beside whole numbers, SINGLE", SINGLE, 4, """
            0x1p-149_ -> 1_
            -0x1p-149_ -> -0_
            0x1.fffffep-1_ -> 1_
            -0x1.fffffep-1_ -> -0_
            0x1.000002p0_ -> 2_
            -0x1.000002p0_ -> -1_
            -0x1.fffffep0_ -> -1_
            8388607.5_ -> 8388608_
            -8388607.5_ -> -8388607_
            """);
        Script.places(due, "UP beside whole numbers, DOUBLE", DOUBLE, 4, """
            0x1p-1074_ -> 1_
            -0x1p-1074_ -> -0_
            0x1.fffffffffffffp-1_ -> 1_
            -0x1.fffffffffffffp-1_ -> -0_
            0x1.0000000000001p0_ -> 2_
            -0x1.0000000000001p0_ -> -1_
            -0x1.fffffffffffffp0_ -> -1_
            4503599627370495.5_ -> 4503599627370496_
            -4503599627370495.5_ -> -4503599627370495_
            """);
    }

    private static void near() {
        Script.places(due, "NEAR: the nearest one", Script.FLOATS, 5, """
            0.25_ -> 0_
            0.75_ -> 1_
            1.25_ -> 1_
            1.75_ -> 2_
            -0.75_ -> -1_
            -1.25_ -> -1_
            -2.75_ -> -3_
            1000.25_ -> 1000_
            """);
        Script.places(due, "NEAR: of two the even one", Script.FLOATS, 5, """
            0.5_ -> 0_
            1.5_ -> 2_
            2.5_ -> 2_
            3.5_ -> 4_
            4.5_ -> 4_
            -0.5_ -> -0_
            -1.5_ -> -2_
            -2.5_ -> -2_
            -3.5_ -> -4_
            """);
        Script.places(due, "NEAR beside the middle of two, SINGLE", SINGLE, 5, """
            0x1.fffffep-2_ -> 0_
            0x1.000002p-1_ -> 1_
            -0x1.000002p-1_ -> -1_
            0x1.7ffffep0_ -> 1_
            0x1.3ffffep1_ -> 2_
            0x1.400002p1_ -> 3_
            4194304.5_ -> 4194304_
            4194305.5_ -> 4194306_
            8388606.5_ -> 8388606_
            8388607.5_ -> 8388608_
            """);
        Script.places(due, "NEAR beside the middle of two, DOUBLE", DOUBLE, 5, """
            0x1.fffffffffffffp-2_ -> 0_
            0x1.0000000000001p-1_ -> 1_
            -0x1.0000000000001p-1_ -> -1_
            0x1.7ffffffffffffp0_ -> 1_
            0x1.3ffffffffffffp1_ -> 2_
            0x1.4000000000001p1_ -> 3_
            2251799813685248.5_ -> 2251799813685248_
            2251799813685249.5_ -> 2251799813685250_
            4503599627370494.5_ -> 4503599627370494_
            4503599627370495.5_ -> 4503599627370496_
            """);
    }

    private static void zeroHasTheSignOfPlace() {
        for (int order = 3; order <= 5; order++) {
            Script.places(due, "A 0 that is so made has the sign that PLACE had, order " + order, Script.FLOATS, order, """
                0_ -> 0_
                -0_ -> -0_
                """);
        }
        Script.places(due, "A 0 that DOWN makes has the sign that PLACE had", Script.FLOATS, 3, "0.75_ -> 0_");
        Script.places(due, "A 0 that UP makes has the sign that PLACE had", Script.FLOATS, 4, "-0.75_ -> -0_");
        Script.places(due, "A 0 that NEAR makes has the sign that PLACE had", Script.FLOATS, 5, """
            0.25_ -> 0_
            0.5_ -> 0_
            -0.25_ -> -0_
            -0.5_ -> -0_
            """);
    }

    private static void endlessStays() {
        for (int order = 3; order <= 5; order++) {
            Script.places(due, "what is endless stays, order " + order, Script.FLOATS, order, """
                inf_ -> inf_
                -inf_ -> -inf_
                """);
        }
    }

    private static void wholesAreWhole() {
        for (int order = 3; order <= 5; order++) {
            Script.places(due, "of WHOLE nothing changes, order " + order, WHOLE, order, """
                0 -> 0
                -1 -> -1
                3 -> 3
                1056964608 -> 1056964608
                -2147483648 -> -2147483648
                2147483647 -> 2147483647
                """);
            Script.places(due, "of LONG nothing changes, order " + order, LONG, order, """
                0 -> 0
                -1 -> -1
                3 -> 3
                4602678819172646912 -> 4602678819172646912
                -9223372036854775808 -> -9223372036854775808
                9223372036854775807 -> 9223372036854775807
                """);
        }
    }

    private static void largeOnesAreWhole() {
        for (int order = 3; order <= 5; order++) {
            Script.places(due, "from 2^23 up every SINGLE is whole, order " + order, SINGLE, order, """
                8388608_ -> 8388608_
                -8388609_ -> -8388609_
                16777218_ -> 16777218_
                33554434_ -> 33554434_
                0x1.fffffep127_ -> 0x1.fffffep127_
                -0x1.fffffep127_ -> -0x1.fffffep127_
                """);
            Script.places(due, "from 2^52 up every DOUBLE is whole, order " + order, DOUBLE, order, """
                4503599627370496_ -> 4503599627370496_
                -4503599627370497_ -> -4503599627370497_
                9007199254740994_ -> 9007199254740994_
                0x1.fffffffffffffp1023_ -> 0x1.fffffffffffffp1023_
                -0x1.fffffffffffffp1023_ -> -0x1.fffffffffffffp1023_
                """);
        }
    }

    private static void look() {
        Script.moves(due, "LOOK: WAY becomes 1 or -1 as PLACE is above or below 0", Script.EVERY_KIND, 6, 1, """
            1_ -3_ 5_ 2_ 7_ -> 1_ -3_ 5_ 2_ 1_
            9_ -3_ 5_ 2_ -7_ -> 9_ -3_ 5_ 2_ 1_
            -1_ -3_ 5_ 2_ 7_ -> -1_ -3_ 5_ 2_ -1_
            -9_ -3_ 5_ 2_ 0_ -> -9_ -3_ 5_ 2_ -1_
            """);
        Script.moves(due, "LOOK: and PLACE itself when it is 0", Script.EVERY_KIND, 6, 1, "0_ -3_ 5_ 2_ 7_ -> 0_ -3_ 5_ 2_ 0_");
        Script.moves(due, "LOOK: PLACE itself when it is -0", Script.FLOATS, 6, 1, """
            -0_ -3_ 5_ 2_ 7_ -> -0_ -3_ 5_ 2_ -0_
            0_ -3_ 5_ 2_ -0_ -> 0_ -3_ 5_ 2_ 0_
            """);
        Script.moves(due, "LOOK at what is endless", Script.FLOATS, 6, 1, """
            inf_ -3_ 5_ 2_ 7_ -> inf_ -3_ 5_ 2_ 1_
            -inf_ -3_ 5_ 2_ 7_ -> -inf_ -3_ 5_ 2_ -1_
            """);
        Script.moves(due, "LOOK at the ends of WHOLE", WHOLE, 6, 1, """
            -2147483648 -3 5 2 7 -> -2147483648 -3 5 2 -1
            2147483647 -3 5 2 7 -> 2147483647 -3 5 2 1
            """);
        Script.moves(due, "LOOK at the ends of LONG", LONG, 6, 1, """
            -9223372036854775808 -3 5 2 7 -> -9223372036854775808 -3 5 2 -1
            4294967296 -3 5 2 7 -> 4294967296 -3 5 2 1
            2147483648 -3 5 2 7 -> 2147483648 -3 5 2 1
            """);
        Script.moves(due, "LOOK at the smallest SINGLE", SINGLE, 6, 1, """
            0x1p-149_ -3_ 5_ 2_ 7_ -> 0x1p-149_ -3_ 5_ 2_ 1_
            -0x1p-149_ -3_ 5_ 2_ 7_ -> -0x1p-149_ -3_ 5_ 2_ -1_
            """);
        Script.moves(due, "LOOK at the smallest DOUBLE", DOUBLE, 6, 1, """
            0x1p-1074_ -3_ 5_ 2_ 7_ -> 0x1p-1074_ -3_ 5_ 2_ 1_
            -0x1p-1074_ -3_ 5_ 2_ 7_ -> -0x1p-1074_ -3_ 5_ 2_ -1_
            """);
    }

    private static void turn() {
        Script.moves(due, "TURN: PLACE gets WAY's sign", Script.EVERY_KIND, 7, 1, """
            4_ -3_ 5_ 2_ 7_ -> 4_ -3_ 5_ 2_ 7_
            4_ -3_ 5_ 2_ -7_ -> -4_ -3_ 5_ 2_ -7_
            -4_ -3_ 5_ 2_ 7_ -> 4_ -3_ 5_ 2_ 7_
            -4_ -3_ 5_ 2_ -7_ -> -4_ -3_ 5_ 2_ -7_
            -4_ -3_ 5_ 2_ 0_ -> 4_ -3_ 5_ 2_ 0_
            4_ -3_ 5_ 2_ 0_ -> 4_ -3_ 5_ 2_ 0_
            """);
        Script.moves(due, "TURN: a PLACE that is 0 gets WAY's sign too", Script.FLOATS, 7, 1, """
            0_ -3_ 5_ 2_ -7_ -> -0_ -3_ 5_ 2_ -7_
            -0_ -3_ 5_ 2_ 7_ -> 0_ -3_ 5_ 2_ 7_
            -0_ -3_ 5_ 2_ 0_ -> 0_ -3_ 5_ 2_ 0_
            0_ -3_ 5_ 2_ -0_ -> -0_ -3_ 5_ 2_ -0_
            """);
        Script.moves(due, "TURN: the sign of a WAY that is -0 is minus", Script.FLOATS, 7, 1, """
            4_ -3_ 5_ 2_ -0_ -> -4_ -3_ 5_ 2_ -0_
            -4_ -3_ 5_ 2_ -0_ -> -4_ -3_ 5_ 2_ -0_
            """);
        Script.moves(due, "TURN of and by what is endless", Script.FLOATS, 7, 1, """
            inf_ -3_ 5_ 2_ -1_ -> -inf_ -3_ 5_ 2_ -1_
            -inf_ -3_ 5_ 2_ 1_ -> inf_ -3_ 5_ 2_ 1_
            4_ -3_ 5_ 2_ -inf_ -> -4_ -3_ 5_ 2_ -inf_
            -4_ -3_ 5_ 2_ inf_ -> 4_ -3_ 5_ 2_ inf_
            """);
        Script.run(due, "LOOK, then TURN: a 0 keeps the side from which one came to it", Script.FLOATS, """
            axis(KIND) = 0; set(0, 0, -0.25_) = true
            orders(0, 0x46) = 2; all(0) = -0_ -inf_ inf_ 0_ -1_
            orders(0, 0x726) = 3; all(0) = -0_ -inf_ inf_ 0_ -0_
            """);
    }

    private static void turnOfWholes() {
        Script.moves(due, "TURN (of WHOLE and LONG: its size, times -1 when WAY is below 0)", Script.WHOLES, 7, 1, """
            0 -3 5 2 -7 -> 0 -3 5 2 -7
            9 -3 5 2 -1 -> -9 -3 5 2 -1
            -9 -3 5 2 1 -> 9 -3 5 2 1
            """);
        Script.moves(due, "TURN (both go round), WHOLE", WHOLE, 7, 1, """
            -2147483648 -3 5 2 1 -> -2147483648 -3 5 2 1
            -2147483648 -3 5 2 0 -> -2147483648 -3 5 2 0
            -2147483648 -3 5 2 -1 -> -2147483648 -3 5 2 -1
            2147483647 -3 5 2 -2147483648 -> -2147483647 -3 5 2 -2147483648
            -2147483647 -3 5 2 2147483647 -> 2147483647 -3 5 2 2147483647
            """);
        Script.moves(due, "TURN (both go round), LONG", LONG, 7, 1, """
            -9223372036854775808 -3 5 2 1 -> -9223372036854775808 -3 5 2 1
            -9223372036854775808 -3 5 2 0 -> -9223372036854775808 -3 5 2 0
            -9223372036854775808 -3 5 2 -1 -> -9223372036854775808 -3 5 2 -1
            9223372036854775807 -3 5 2 -9223372036854775808 -> -9223372036854775807 -3 5 2 -9223372036854775808
            -2147483648 -3 5 2 4294967296 -> 2147483648 -3 5 2 4294967296
            """);
    }

    private static void widen() {
        Script.moves(due, "WIDEN: HIGH becomes the greater one of it and PLACE, LOW the lesser one", Script.EVERY_KIND, 8, 1, """
            4_ -3_ 5_ 1_ 2_ -> 4_ -3_ 5_ 1_ 2_
            5_ -3_ 5_ 1_ 2_ -> 5_ -3_ 5_ 1_ 2_
            6_ -3_ 5_ 1_ 2_ -> 6_ -3_ 6_ 1_ 2_
            -3_ -3_ 5_ 1_ 2_ -> -3_ -3_ 5_ 1_ 2_
            -4_ -3_ 5_ 1_ 2_ -> -4_ -4_ 5_ 1_ 2_
            """);
        Script.moves(due, "WIDEN moves both stops where LOW is above HIGH", Script.EVERY_KIND, 8, 1, """
            1_ 5_ -3_ 1_ 2_ -> 1_ 1_ 1_ 1_ 2_
            9_ 5_ -3_ 1_ 2_ -> 9_ 5_ 9_ 1_ 2_
            -9_ 5_ -3_ 1_ 2_ -> -9_ -9_ -3_ 1_ 2_
            """);
        Script.moves(due, "WIDEN to what is endless", Script.FLOATS, 8, 1, """
            inf_ -3_ 5_ 1_ 2_ -> inf_ -3_ inf_ 1_ 2_
            -inf_ -3_ 5_ 1_ 2_ -> -inf_ -inf_ 5_ 1_ 2_
            """);
        Script.moves(due, "WIDEN to the ends of WHOLE", WHOLE, 8, 1, """
            2147483647 -3 5 1 2 -> 2147483647 -3 2147483647 1 2
            -2147483648 -3 5 1 2 -> -2147483648 -2147483648 5 1 2
            """);
        Script.moves(due, "WIDEN to the ends of LONG", LONG, 8, 1, """
            9223372036854775807 -3 5 1 2 -> 9223372036854775807 -3 9223372036854775807 1 2
            -9223372036854775808 -3 5 1 2 -> -9223372036854775808 -9223372036854775808 5 1 2
            """);
    }

    private static void rest() {
        Script.moves(due, "REST: when PLACE's size is not above BAND's, PLACE becomes 0", Script.WHOLES, 9, 1, """
            2 -3 5 2 7 -> 0 -3 5 2 7
            3 -3 5 2 7 -> 3 -3 5 2 7
            -2 -3 5 2 7 -> 0 -3 5 2 7
            -3 -3 5 2 7 -> -3 -3 5 2 7
            0 -3 5 0 7 -> 0 -3 5 0 7
            1 -3 5 0 7 -> 1 -3 5 0 7
            2 -3 5 -2 7 -> 0 -3 5 -2 7
            -2 -3 5 -2 7 -> 0 -3 5 -2 7
            3 -3 5 -2 7 -> 3 -3 5 -2 7
            """);
        Script.moves(due, "REST: of SINGLE and DOUBLE with the sign that it had", Script.FLOATS, 9, 1, """
            2_ -3_ 5_ 2_ 7_ -> 0_ -3_ 5_ 2_ 7_
            -2_ -3_ 5_ 2_ 7_ -> -0_ -3_ 5_ 2_ 7_
            -2_ -3_ 5_ -2_ 7_ -> -0_ -3_ 5_ -2_ 7_
            2_ -3_ 5_ -2_ -7_ -> 0_ -3_ 5_ -2_ -7_
            -0_ -3_ 5_ 0_ 7_ -> -0_ -3_ 5_ 0_ 7_
            -0_ -3_ 5_ -0_ 7_ -> -0_ -3_ 5_ -0_ 7_
            0_ -3_ 5_ -0_ 7_ -> 0_ -3_ 5_ -0_ 7_
            2.25_ -3_ 5_ 2_ 7_ -> 2.25_ -3_ 5_ 2_ 7_
            -2.25_ -3_ 5_ -2_ 7_ -> -2.25_ -3_ 5_ -2_ 7_
            """);
        Script.moves(due, "REST of and by what is endless", Script.FLOATS, 9, 1, """
            inf_ -3_ 5_ 2_ 7_ -> inf_ -3_ 5_ 2_ 7_
            inf_ -3_ 5_ inf_ 7_ -> 0_ -3_ 5_ inf_ 7_
            -inf_ -3_ 5_ inf_ 7_ -> -0_ -3_ 5_ inf_ 7_
            -2_ -3_ 5_ -inf_ 7_ -> -0_ -3_ 5_ -inf_ 7_
            """);
        Script.moves(due, "REST of the smallest SINGLE", SINGLE, 9, 1, """
            0x1p-149_ -3_ 5_ 0_ 7_ -> 0x1p-149_ -3_ 5_ 0_ 7_
            -0x1p-149_ -3_ 5_ 0x1p-149_ 7_ -> -0_ -3_ 5_ 0x1p-149_ 7_
            0x1p-148_ -3_ 5_ 0x1p-149_ 7_ -> 0x1p-148_ -3_ 5_ 0x1p-149_ 7_
            """);
        Script.moves(due, "REST of the smallest DOUBLE", DOUBLE, 9, 1, """
            0x1p-1074_ -3_ 5_ 0_ 7_ -> 0x1p-1074_ -3_ 5_ 0_ 7_
            -0x1p-1074_ -3_ 5_ 0x1p-1074_ 7_ -> -0_ -3_ 5_ 0x1p-1074_ 7_
            0x1p-1073_ -3_ 5_ 0x1p-1074_ 7_ -> 0x1p-1073_ -3_ 5_ 0x1p-1074_ 7_
            """);
    }

    /** SIZE lets the least whole number stay: as a size it is above nothing, and nothing but itself is not above it. */
    private static void restOfTheLeast() {
        Script.moves(due, "REST: PLACE's size (as SIZE makes it), WHOLE", WHOLE, 9, 1, """
            -2147483648 -3 5 0 7 -> 0 -3 5 0 7
            -2147483648 -3 5 -2147483648 7 -> 0 -3 5 -2147483648 7
            -2147483647 -3 5 2147483646 7 -> -2147483647 -3 5 2147483646 7
            -2147483647 -3 5 2147483647 7 -> 0 -3 5 2147483647 7
            0 -3 5 -2147483648 7 -> 0 -3 5 -2147483648 7
            1 -3 5 -2147483648 7 -> 1 -3 5 -2147483648 7
            -1 -3 5 -2147483648 7 -> -1 -3 5 -2147483648 7
            """);
        Script.moves(due, "REST: PLACE's size (as SIZE makes it), LONG", LONG, 9, 1, """
            -9223372036854775808 -3 5 0 7 -> 0 -3 5 0 7
            -9223372036854775808 -3 5 -9223372036854775808 7 -> 0 -3 5 -9223372036854775808 7
            -9223372036854775807 -3 5 9223372036854775806 7 -> -9223372036854775807 -3 5 9223372036854775806 7
            -9223372036854775807 -3 5 9223372036854775807 7 -> 0 -3 5 9223372036854775807 7
            1 -3 5 -9223372036854775808 7 -> 1 -3 5 -9223372036854775808 7
            -2147483648 -3 5 0 7 -> -2147483648 -3 5 0 7
            """);
    }

    private static void grid() {
        Script.moves(due, "GRID: LOW becomes what DOWN, HIGH what UP would make of PLACE", Script.FLOATS, 10, 1, """
            2.5_ -9_ 9_ 1_ 7_ -> 2.5_ 2_ 3_ 1_ 7_
            -2.5_ -9_ 9_ 1_ 7_ -> -2.5_ -3_ -2_ 1_ 7_
            2_ -9_ 9_ 1_ 7_ -> 2_ 2_ 2_ 1_ 7_
            0.5_ -9_ 9_ 1_ 7_ -> 0.5_ 0_ 1_ 1_ 7_
            -0.5_ -9_ 9_ 1_ 7_ -> -0.5_ -1_ -0_ 1_ 7_
            0_ -9_ 9_ 1_ 7_ -> 0_ 0_ 0_ 1_ 7_
            -0_ -9_ 9_ 1_ 7_ -> -0_ -0_ -0_ 1_ 7_
            inf_ -9_ 9_ 1_ 7_ -> inf_ inf_ inf_ 1_ 7_
            -inf_ -9_ 9_ 1_ 7_ -> -inf_ -inf_ -inf_ 1_ 7_
            """);
        Script.moves(due, "GRID of the smallest SINGLE", SINGLE, 10, 1, """
            0x1p-149_ -9_ 9_ 1_ 7_ -> 0x1p-149_ 0_ 1_ 1_ 7_
            -0x1p-149_ -9_ 9_ 1_ 7_ -> -0x1p-149_ -1_ -0_ 1_ 7_
            """);
        Script.moves(due, "GRID of the smallest DOUBLE", DOUBLE, 10, 1, """
            0x1p-1074_ -9_ 9_ 1_ 7_ -> 0x1p-1074_ 0_ 1_ 1_ 7_
            -0x1p-1074_ -9_ 9_ 1_ 7_ -> -0x1p-1074_ -1_ -0_ 1_ 7_
            """);
        Script.moves(due, "GRID of WHOLE and LONG: both become PLACE", Script.WHOLES, 10, 1, """
            4 -9 9 1 7 -> 4 4 4 1 7
            0 -9 9 1 7 -> 0 0 0 1 7
            -2147483648 -9 9 1 7 -> -2147483648 -2147483648 -2147483648 1 7
            """);
    }

    private static void swap() {
        Script.moves(due, "SWAP: LOW and HIGH are exchanged", Script.EVERY_KIND, 11, 1, """
            4_ -3_ 5_ 1_ 2_ -> 4_ 5_ -3_ 1_ 2_
            4_ 5_ -3_ 1_ 2_ -> 4_ -3_ 5_ 1_ 2_
            9_ 6_ 6_ 1_ 2_ -> 9_ 6_ 6_ 1_ 2_
            """);
        Script.moves(due, "SWAP keeps the signs of 0s", Script.FLOATS, 11, 1, """
            4_ -0_ 0_ 1_ 2_ -> 4_ 0_ -0_ 1_ 2_
            4_ 0_ -0_ 1_ 2_ -> 4_ -0_ 0_ 1_ 2_
            """);
        Script.run(due, "SWAP of the first stops", """
            axis(0) = 0; axis(1) = 1; axis(2) = 2; axis(3) = 3
            orders(0, 0xb) = 1; all(0) = 0 2147483647 -2147483648 0 0
            orders(1, 0xb) = 1; all(1) = 0 9223372036854775807 -9223372036854775808 0 0
            orders(2, 0xb) = 1; all(2) = 0f inff -inff 0f 0f
            orders(3, 0xb) = 1; all(3) = 0d infd -infd 0d 0d
            """);
    }

    private static void fallAndRise() {
        Script.moves(due, "FALL: PLACE becomes LOW", Script.EVERY_KIND, 12, 1, """
            4_ -3_ 5_ 1_ 2_ -> -3_ -3_ 5_ 1_ 2_
            4_ 5_ -3_ 1_ 2_ -> 5_ 5_ -3_ 1_ 2_
            """);
        Script.moves(due, "FALL to a LOW that is 0 keeps its sign", Script.FLOATS, 12, 1, """
            0_ -0_ 5_ 1_ 2_ -> -0_ -0_ 5_ 1_ 2_
            -0_ 0_ 5_ 1_ 2_ -> 0_ 0_ 5_ 1_ 2_
            """);
        Script.moves(due, "RISE: PLACE becomes HIGH", Script.EVERY_KIND, 13, 1, """
            4_ -3_ 5_ 1_ 2_ -> 5_ -3_ 5_ 1_ 2_
            4_ 5_ -3_ 1_ 2_ -> -3_ 5_ -3_ 1_ 2_
            """);
        Script.moves(due, "RISE to a HIGH that is 0 keeps its sign", Script.FLOATS, 13, 1, """
            0_ -5_ -0_ 1_ 2_ -> -0_ -5_ -0_ 1_ 2_
            -0_ -5_ 0_ 1_ 2_ -> 0_ -5_ 0_ 1_ 2_
            """);
        Script.run(due, "FALL and RISE to the first stops", """
            axis(0) = 0; axis(1) = 1; axis(2) = 2; axis(3) = 3
            orders(0, 0xc) = 1; bits(0, 0) = -2147483648; orders(0, 0xd) = 1; bits(0, 0) = 2147483647
            orders(1, 0xc) = 1; bits(1, 0) = -9223372036854775808; orders(1, 0xd) = 1; bits(1, 0) = 9223372036854775807
            orders(2, 0xc) = 1; bits(2, 0) = -inff; orders(2, 0xd) = 1; bits(2, 0) = inff
            orders(3, 0xc) = 1; bits(3, 0) = -infd; orders(3, 0xd) = 1; bits(3, 0) = infd
            """);
    }
}
