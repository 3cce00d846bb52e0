/** The sentences of the document's "Terms" that name a boundary, a test each; its orders have SentencesOrdersTest. */
public final class SentencesTermsTest {
    private static Due due;

    public static void main(String[] args) {
        due = new Due("SentencesTermsTest");
        upToEightAxes();
        wholeAndLong();
        single();
        numbersOfDouble();
        neverNoNumber();
        noNumberIsEverMade();
        atFirst();
        bitsOfANumber();
        minusZeroIsLess();
        elsewhereZerosAreAlike();
        rowOfOrders();
        due.end();
    }

    private static void upToEightAxes() {
        Script.run(due, "up to eight AXES, numbered 0, 1, ..", """
            axis(0) = 0; axis(1) = 1; axis(2) = 2; axis(3) = 3; axis(3) = 4; axis(2) = 5; axis(1) = 6
            set(7, 0, 5) = false; bits(7, 2) = 0; orders(7, 0) = NONE; follow(7, 7) = false; order(7, 7) = -2
            axis(0) = 7
            set(7, 0, 5) = true; bits(7, 2) = 2147483647; orders(7, 0) = 0; follow(7, 7) = true; order(7, 7) = 0
            axis(0) = NONE
            set(8, 0, 5) = false; bits(8, 2) = 0; orders(8, 0) = NONE; follow(8, 8) = false; order(8, 8) = -2
            bits(0, 2) = 2147483647; bits(1, 2) = 9223372036854775807; bits(2, 2) = inff; bits(3, 2) = infd
            bits(4, 2) = infd; bits(5, 2) = inff; bits(6, 2) = 9223372036854775807; bits(7, 0) = 5
            """);
        Script.run(due, "each axis has numbers of its own", Script.EVERY_KIND, """
            axis(KIND) = 0; axis(KIND) = 1; axis(KIND) = 2
            set(1, 0, 1_) = true; set(1, 1, 2_) = true; set(1, 2, 3_) = true; set(1, 3, 4_) = true; set(1, 4, 5_) = true
            set(0, 1, 8_) = true; set(0, 2, 9_) = true; set(2, 1, 6_) = true; set(2, 2, 7_) = true
            all(0) = 0_ 8_ 9_ 0_ 0_; all(1) = 1_ 2_ 3_ 4_ 5_; all(2) = 0_ 6_ 7_ 0_ 0_
            orders(1, 0xb) = 1
            all(0) = 0_ 8_ 9_ 0_ 0_; all(1) = 1_ 3_ 2_ 4_ 5_; all(2) = 0_ 6_ 7_ 0_ 0_
            """);
    }

    private static void wholeAndLong() {
        Script.run(due, "0 WHOLE (32 bits with a sign)", """
            axis(0) = 0
            set(0, 0, 2147483647) = true; bits(0, 0) = 2147483647
            set(0, 0, 2147483648) = true; bits(0, 0) = -2147483648
            set(0, 0, 4294967295) = true; bits(0, 0) = -1
            set(0, 0, 4294967296) = true; bits(0, 0) = 0
            set(0, 0, -2147483649) = true; bits(0, 0) = 2147483647
            """);
        Script.run(due, "1 LONG (64)", """
            axis(1) = 0
            set(0, 0, 2147483648) = true; bits(0, 0) = 2147483648
            set(0, 0, 4294967296) = true; bits(0, 0) = 4294967296
            set(0, 0, 9223372036854775807) = true; bits(0, 0) = 9223372036854775807
            set(0, 0, -9223372036854775808) = true; bits(0, 0) = -9223372036854775808
            """);
    }

    private static void single() {
        Script.run(due, "2 SINGLE (32 bits as IEEE 754 has them)", """
            axis(2) = 0; axis(3) = 1; axis(0) = 2
            set(0, 0, 1) = true; follow(1, 0) = true; bits(1, 0) = 0x1p-149d
            set(0, 0, 8388607) = true; follow(1, 0) = true; bits(1, 0) = 0x1.fffffcp-127d
            set(0, 0, 8388608) = true; follow(1, 0) = true; bits(1, 0) = 0x1p-126d
            set(0, 0, 1065353216) = true; follow(1, 0) = true; bits(1, 0) = 1.0d; follow(2, 0) = true; bits(2, 0) = 1
            set(0, 0, 2139095039) = true; follow(1, 0) = true; bits(1, 0) = 0x1.fffffep127d
            set(0, 0, 2139095040) = true; follow(1, 0) = true; bits(1, 0) = infd
            set(0, 0, -1073741824) = true; follow(1, 0) = true; bits(1, 0) = -2.0d; follow(2, 0) = true; bits(2, 0) = -2
            """);
    }

    private static void numbersOfDouble() {
        Script.run(due, "3 DOUBLE (64 bits as IEEE 754 has them)", """
            axis(3) = 0; axis(1) = 1; axis(2) = 2
            set(0, 0, 4607182418800017408) = true; follow(1, 0) = true; bits(1, 0) = 1; follow(2, 0) = true; bits(2, 0) = 1.0f
            set(0, 0, -4611686018427387904) = true; follow(1, 0) = true; bits(1, 0) = -2; follow(2, 0) = true; bits(2, 0) = -2.0f
            set(0, 0, 9218868437227405311) = true; follow(1, 0) = true; bits(1, 0) = 9223372036854775807
            set(0, 0, 1) = true; orders(0, 4) = 1; bits(0, 0) = 1.0d
            """);
    }

    private static void neverNoNumber() {
        for (int what = 0; what < 5; what++) {
            String single = """
                axis(2) = 0; set(0, WHAT, -2.5f) = true
                set(0, WHAT, 0x7f800001) = false; bits(0, WHAT) = -2.5f
                set(0, WHAT, 0x7fc00000) = false; bits(0, WHAT) = -2.5f
                set(0, WHAT, 0x7fffffff) = false; bits(0, WHAT) = -2.5f
                set(0, WHAT, 0xff800001) = false; bits(0, WHAT) = -2.5f
                set(0, WHAT, 0xffffffffff800001) = false; bits(0, WHAT) = -2.5f
                set(0, WHAT, -1) = false; bits(0, WHAT) = -2.5f
                set(0, WHAT, 0x7f800000) = true; bits(0, WHAT) = inff
                set(0, WHAT, 0xff800000) = true; bits(0, WHAT) = -inff
                """;
            String dbl = """
                axis(3) = 0; set(0, WHAT, -2.5d) = true
                set(0, WHAT, 0x7ff0000000000001) = false; bits(0, WHAT) = -2.5d
                set(0, WHAT, 0x7ff8000000000000) = false; bits(0, WHAT) = -2.5d
                set(0, WHAT, 0x7fffffffffffffff) = false; bits(0, WHAT) = -2.5d
                set(0, WHAT, 0xfff0000000000001) = false; bits(0, WHAT) = -2.5d
                set(0, WHAT, 0xfff0000100000000) = false; bits(0, WHAT) = -2.5d
                set(0, WHAT, -1) = false; bits(0, WHAT) = -2.5d
                set(0, WHAT, 0x7ff0000000000000) = true; bits(0, WHAT) = infd
                set(0, WHAT, 0xfff0000000000000) = true; bits(0, WHAT) = -infd
                """;
            Script.run(due, "never one that is no number", single.replace("WHAT", Integer.toString(what)));
            Script.run(due, "never one that is no number", dbl.replace("WHAT", Integer.toString(what)));
        }
        Script.run(due, "what is no number of one kind may be one of another", """
            axis(0) = 0; axis(1) = 1; axis(2) = 2; axis(3) = 3
            set(0, 0, 0x7fc00000) = true; bits(0, 0) = 2143289344
            set(0, 0, -1) = true; bits(0, 0) = -1
            set(1, 0, 0x7ff8000000000000) = true; bits(1, 0) = 9221120237041090560
            set(1, 0, -1) = true; bits(1, 0) = -1
            set(2, 0, 0x7ff8000000000000) = true; bits(2, 0) = 0
            set(3, 0, 0x7fc00000) = true; bits(3, 0) = 2143289344
            """);
    }

    /** Orders and follows at the endless numbers and at those beside them, where a careless sum would spoil the bits. */
    private static void noNumberIsEverMade() {
        String row = """
            axis(KIND) = 0
            set(0, 0, PLACE) = true; set(0, 1, inf_) = true; set(0, 2, -inf_) = true; set(0, 3, inf_) = true
            set(0, 4, -inf_) = true
            orders(0, 0x5437) = 4; bits(0, 0) = TURNED
            orders(0, 0x8a2) = 3; all(0) = SIZED SIZED SIZED inf_ -inf_
            orders(0, 0x96) = 2; all(0) = 0_ SIZED SIZED inf_ 1_
            """;
        Script.run(due, "no order makes what is no number", Script.FLOATS,
            row.replace("PLACE", "inf_").replace("TURNED", "-inf_").replace("SIZED", "inf_"));
        Script.run(due, "no order makes what is no number", Script.FLOATS,
            row.replace("PLACE", "-inf_").replace("TURNED", "-inf_").replace("SIZED", "inf_"));
        Script.run(due, "no order makes what is no number", new int[] {Due.SINGLE},
            row.replace("PLACE", "0x1.fffffep127f").replace("TURNED", "-0x1.fffffep127f").replace("SIZED", "0x1.fffffep127f"));
        Script.run(due, "no order makes what is no number", new int[] {Due.DOUBLE},
            row.replace("PLACE", "0x1.fffffffffffffp1023d").replace("TURNED", "-0x1.fffffffffffffp1023d")
                .replace("SIZED", "0x1.fffffffffffffp1023d"));
        Script.run(due, "no follow makes what is no number", """
            axis(2) = 0; axis(3) = 1
            set(1, 0, 0x7fefffffffffffff) = true; follow(0, 1) = true; bits(0, 0) = 2139095040
            set(1, 0, 0xffefffffffffffff) = true; follow(0, 1) = true; bits(0, 0) = -8388608
            set(1, 0, 0x7ff0000000000000) = true; follow(0, 1) = true; bits(0, 0) = 2139095040
            follow(1, 0) = true; bits(1, 0) = 9218868437227405312
            set(0, 0, 0xff800000) = true; follow(1, 0) = true; bits(1, 0) = -4503599627370496
            """);
    }

    private static void atFirst() {
        Script.run(due, "At first PLACE, BAND and WAY are 0, LOW is the least, HIGH the greatest of the kind", """
            axis(0) = 0; all(0) = 0 -2147483648 2147483647 0 0
            axis(1) = 1; all(1) = 0 -9223372036854775808 9223372036854775807 0 0
            """);
        Script.run(due, "(of SINGLE, DOUBLE: - and + infinity)", """
            axis(2) = 0; all(0) = 0 -8388608 2139095040 0 0
            axis(3) = 1; all(1) = 0 -4503599627370496 9218868437227405312 0 0
            """);
    }

    private static void bitsOfANumber() {
        Script.run(due, "BITS of a number: of WHOLE, LONG it itself", """
            axis(0) = 0; axis(1) = 1; axis(3) = 2
            set(0, 0, -7) = true; bits(0, 0) = -7; follow(2, 0) = true; bits(2, 0) = -7.0d
            set(1, 0, -7) = true; bits(1, 0) = -7; follow(2, 1) = true; bits(2, 0) = -7.0d
            """);
        Script.run(due, "of the others those of IEEE 754 (of SINGLE 32, as a whole number with a sign)", """
            axis(1) = 0; axis(2) = 1; axis(3) = 2
            set(0, 0, 1) = true; follow(1, 0) = true; bits(1, 0) = 1065353216; follow(2, 0) = true; bits(2, 0) = 4607182418800017408
            set(0, 0, -1) = true; follow(1, 0) = true; bits(1, 0) = -1082130432; follow(2, 0) = true; bits(2, 0) = -4616189618054758400
            set(1, 0, 0x80000000) = true; bits(1, 0) = -2147483648
            set(2, 0, 0x8000000000000000) = true; bits(2, 0) = -9223372036854775808
            set(1, 0, 0xbfc00000) = true; bits(1, 0) = -1077936128; follow(2, 1) = true; bits(2, 0) = -1.5d
            """);
    }

    private static void minusZeroIsLess() {
        Script.moves(due, "-0 is LESS than 0 where the greater one is taken: HOLD", Script.FLOATS, 1, 1, """
            -0_ 0_ 9_ 0_ 0_ -> 0_ 0_ 9_ 0_ 0_
            0_ -0_ 9_ 0_ 0_ -> 0_ -0_ 9_ 0_ 0_
            -0_ -0_ 9_ 0_ 0_ -> -0_ -0_ 9_ 0_ 0_
            """);
        Script.moves(due, "-0 is LESS than 0 where the lesser one is taken: HOLD", Script.FLOATS, 1, 1, """
            0_ -9_ -0_ 0_ 0_ -> -0_ -9_ -0_ 0_ 0_
            -0_ -9_ 0_ 0_ 0_ -> -0_ -9_ 0_ 0_ 0_
            0_ -9_ 0_ 0_ 0_ -> 0_ -9_ 0_ 0_ 0_
            """);
        Script.moves(due, "-0 is LESS than 0 in HOLD between two stops that are 0", Script.FLOATS, 1, 1, """
            -1_ -0_ 0_ 0_ 0_ -> -0_ -0_ 0_ 0_ 0_
            1_ -0_ 0_ 0_ 0_ -> 0_ -0_ 0_ 0_ 0_
            1_ 0_ -0_ 0_ 0_ -> 0_ 0_ -0_ 0_ 0_
            """);
        Script.moves(due, "-0 is LESS than 0 where the lesser or greater one is taken: WIDEN", Script.FLOATS, 8, 1, """
            0_ -9_ -0_ 0_ 0_ -> 0_ -9_ 0_ 0_ 0_
            -0_ -9_ 0_ 0_ 0_ -> -0_ -9_ 0_ 0_ 0_
            -0_ 0_ 9_ 0_ 0_ -> -0_ -0_ 9_ 0_ 0_
            0_ -0_ 9_ 0_ 0_ -> 0_ -0_ 9_ 0_ 0_
            """);
        Script.run(due, "-0 is LESS than 0 where two are ordered", Script.FLOATS, """
            axis(KIND) = 0; axis(KIND) = 1
            set(0, 0, -0_) = true; order(0, 1) = -1; order(1, 0) = 1; order(0, 0) = 0
            set(1, 0, -0_) = true; order(0, 1) = 0; order(1, 0) = 0
            set(0, 0, 0_) = true; order(0, 1) = 1; order(1, 0) = -1
            """);
        Script.run(due, "-0 is greater than all that is below 0, and 0 less than all above it", """
            axis(2) = 0; axis(2) = 1; axis(3) = 2; axis(3) = 3
            set(0, 0, -0f) = true; set(1, 0, -0x1p-149f) = true; order(0, 1) = 1; order(1, 0) = -1
            set(0, 0, 0f) = true; set(1, 0, 0x1p-149f) = true; order(0, 1) = -1; order(1, 0) = 1
            set(2, 0, -0d) = true; set(3, 0, -0x1p-1074d) = true; order(2, 3) = 1; order(3, 2) = -1
            set(2, 0, 0d) = true; set(3, 0, 0x1p-1074d) = true; order(2, 3) = -1; order(3, 2) = 1
            """);
    }

    private static void elsewhereZerosAreAlike() {
        Script.moves(due, "elsewhere they are alike: LOOK takes -0 for 0, not for what is below 0", Script.FLOATS, 6, 1, """
            -0_ -9_ 9_ 0_ 7_ -> -0_ -9_ 9_ 0_ -0_
            0_ -9_ 9_ 0_ 7_ -> 0_ -9_ 9_ 0_ 0_
            """);
        Script.moves(due, "elsewhere they are alike: REST measures -0 and 0 the same", Script.FLOATS, 9, 1, """
            0_ -9_ 9_ -0_ 0_ -> 0_ -9_ 9_ -0_ 0_
            1_ -9_ 9_ -0_ 0_ -> 1_ -9_ 9_ -0_ 0_
            -1_ -9_ 9_ 0_ 0_ -> -1_ -9_ 9_ 0_ 0_
            """);
        Script.moves(due, "elsewhere they are alike: -0 is a whole number as 0 is, and is not moved to -1 or 1", Script.FLOATS,
            10, 1, """
            -0_ -9_ 9_ 0_ 0_ -> -0_ -0_ -0_ 0_ 0_
            0_ -9_ 9_ 0_ 0_ -> 0_ 0_ 0_ 0_ 0_
            """);
        Script.run(due, "elsewhere they are alike: both become the one 0 of WHOLE and LONG", Script.FLOATS, """
            axis(KIND) = 0; axis(0) = 1; axis(1) = 2
            set(0, 0, -0_) = true; set(1, 0, 5) = true; set(2, 0, 5) = true
            follow(1, 0) = true; bits(1, 0) = 0; follow(2, 0) = true; bits(2, 0) = 0
            """);
    }

    private static void rowOfOrders() {
        Script.run(due, "four bits each, the lowest first", Script.EVERY_KIND, """
            axis(KIND) = 0; set(0, 1, -3_) = true; set(0, 2, 5_) = true
            orders(0, 0xdc) = 2; bits(0, 0) = 5_
            orders(0, 0xcd) = 2; bits(0, 0) = -3_
            orders(0, 0x26) = 2; all(0) = 3_ -3_ 5_ 0_ -1_
            orders(0, 0xc) = 1
            orders(0, 0x62) = 2; all(0) = 3_ -3_ 5_ 0_ 1_
            """);
        Script.run(due, "up to the first that is 0", Script.EVERY_KIND, """
            axis(KIND) = 0; set(0, 1, -3_) = true; set(0, 2, 5_) = true
            orders(0, 0) = 0; all(0) = 0_ -3_ 5_ 0_ 0_
            orders(0, 0xddddddd0) = 0; all(0) = 0_ -3_ 5_ 0_ 0_
            orders(0, 0xd0c) = 1; all(0) = -3_ -3_ 5_ 0_ 0_
            orders(0, 0xb0d2) = 2; all(0) = 5_ -3_ 5_ 0_ 0_
            orders(0, 0xb0000000) = 0; all(0) = 5_ -3_ 5_ 0_ 0_
            orders(0, 0xb0cbbbbb) = 6; all(0) = 5_ 5_ -3_ 0_ 0_
            """);
        Script.run(due, "(eight at most)", Script.EVERY_KIND, """
            axis(KIND) = 0; set(0, 1, -3_) = true; set(0, 2, 5_) = true
            orders(0, 0xd1111111) = 8; all(0) = 5_ -3_ 5_ 0_ 0_
            orders(0, 0xcbbbbbbb) = 8; all(0) = 5_ 5_ -3_ 0_ 0_
            orders(0, 0x62bbbbbc) = 8; all(0) = 5_ -3_ 5_ 0_ 1_
            orders(0, 0xbbbbbbb) = 7; all(0) = 5_ 5_ -3_ 0_ 1_
            orders(0, 0x7b2d1111) = 8; all(0) = 3_ -3_ 5_ 0_ 1_
            """);
    }
}
