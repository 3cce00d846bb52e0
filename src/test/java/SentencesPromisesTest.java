/** The sentences of promises 1 to 5 and 7 that name a boundary, a test each; promise 6 has SentencesFollowTest. */
public final class SentencesPromisesTest {
    /** Two axes with ten numbers that are all different, so that a later "all" shows any that a call has touched. */
    private static final String TWO_AXES = """
        axis(KIND) = 0; axis(KIND) = 1
        set(0, 0, 3_) = true; set(0, 1, -7_) = true; set(0, 2, 6_) = true; set(0, 3, 5_) = true; set(0, 4, -4_) = true
        set(1, 0, 13_) = true; set(1, 1, -17_) = true; set(1, 2, 16_) = true; set(1, 3, 15_) = true; set(1, 4, -14_) = true
        """;
    private static final String UNTOUCHED = """
        all(0) = 3_ -7_ 6_ 5_ -4_; all(1) = 13_ -17_ 16_ 15_ -14_
        axis(KIND) = 2
        """;

    private static Due due;

    public static void main(String[] args) {
        due = new Due("SentencesPromisesTest");
        newObject();
        noSuchKind();
        thereAreEight();
        setTakesTheLowest32();
        setOfNoSuchAxisOrNumber();
        setOfNoNumber();
        bitsWithTheirSign();
        bitsOfNoneSuch();
        ordersTellHowMany();
        ordersOfNoSuchAxis();
        ordersWithFourteenOrFifteen();
        orderOfPlaces();
        orderOfNoSuchAxis();
        orderOfTwoKinds();
        due.end();
    }

    private static void newObject() {
        Script.run(due, "Promise 1: No axes", """
            bits(0, 0) = 0; bits(0, 1) = 0; bits(0, 2) = 0; bits(0, 3) = 0; bits(0, 4) = 0
            set(0, 0, 1) = false; set(0, 1, 1) = false; set(0, 2, 1) = false; set(0, 3, 1) = false; set(0, 4, 1) = false
            orders(0, 0) = NONE; orders(0, 1) = NONE; orders(0, 0xd) = NONE
            follow(0, 0) = false; order(0, 0) = -2
            bits(7, 2) = 0; set(7, 0, 1) = false; orders(7, 0) = NONE; follow(7, 7) = false; order(7, 7) = -2
            axis(1) = 0; all(0) = 0 -9223372036854775808 9223372036854775807 0 0
            """);
        Script.run(due, "Promise 1: a second object has no axes, though the first had eight", """
            axis(0) = 0; axis(0) = 1; axis(0) = 2; axis(0) = 3; axis(0) = 4; axis(0) = 5; axis(0) = 6; axis(0) = 7
            """);
        Script.run(due, "Promise 1: a second object has no axes, though the first had eight", """
            bits(0, 2) = 0; bits(7, 2) = 0; orders(0, 0) = NONE; axis(0) = 0; bits(1, 2) = 0
            """);
    }

    private static void noSuchKind() {
        Script.run(due, "Promise 2: NONE: no such kind", """
            axis(-1) = NONE; axis(4) = NONE; axis(5) = NONE; axis(2147483647) = NONE; axis(-2147483648) = NONE
            bits(0, 2) = 0; set(0, 0, 1) = false; orders(0, 0) = NONE; order(0, 0) = -2
            axis(3) = 0; axis(-1) = NONE; axis(4) = NONE; bits(1, 2) = 0; orders(1, 0) = NONE
            axis(0) = 1; all(0) = 0d -infd infd 0d 0d; all(1) = 0 -2147483648 2147483647 0 0
            """);
    }

    private static void thereAreEight() {
        Script.run(due, "Promise 2: NONE: there are eight", Script.EVERY_KIND, """
            axis(0) = 0; axis(0) = 1; axis(0) = 2; axis(0) = 3; axis(0) = 4; axis(0) = 5; axis(0) = 6; axis(KIND) = 7
            set(0, 0, 11) = true; set(7, 0, 3_) = true; set(7, 1, -7_) = true; set(7, 2, 6_) = true
            axis(KIND) = NONE; axis(0) = NONE; axis(1) = NONE; axis(2) = NONE; axis(3) = NONE; axis(4) = NONE
            all(0) = 11 -2147483648 2147483647 0 0; all(7) = 3_ -7_ 6_ 0_ 0_
            bits(8, 2) = 0; set(8, 0, 1) = false; orders(8, 0) = NONE; follow(8, 0) = false; order(8, 8) = -2
            """);
    }

    private static void setTakesTheLowest32() {
        for (int what = 0; what < 5; what++) {
            String whole = """
                axis(0) = 0
                set(0, WHAT, 0x100000005) = true; bits(0, WHAT) = 5
                set(0, WHAT, 0x80000000) = true; bits(0, WHAT) = -2147483648
                set(0, WHAT, 0xffffffff7fffffff) = true; bits(0, WHAT) = 2147483647
                set(0, WHAT, 0x7fffffff00000000) = true; bits(0, WHAT) = 0
                set(0, WHAT, 0x00000000ffffffff) = true; bits(0, WHAT) = -1
                """;
            String single = """
                axis(2) = 0
                set(0, WHAT, 0x1234567840200000) = true; bits(0, WHAT) = 2.5f
                set(0, WHAT, 0xc0200000) = true; bits(0, WHAT) = -2.5f
                set(0, WHAT, 0xffffffffc0200000) = true; bits(0, WHAT) = -2.5f
                set(0, WHAT, 0x7fc0000000000000) = true; bits(0, WHAT) = 0f
                set(0, WHAT, 0x7fc0000080000000) = true; bits(0, WHAT) = -0f
                set(0, WHAT, 0x000000017f800000) = true; bits(0, WHAT) = inff
                """;
            Script.run(due, "Promise 3: (of WHOLE the lowest 32)", whole.replace("WHAT", Integer.toString(what)));
            Script.run(due, "Promise 3: (of SINGLE the lowest 32)", single.replace("WHAT", Integer.toString(what)));
        }
        Script.run(due, "Promise 3: of LONG and DOUBLE all 64", """
            axis(1) = 0; axis(3) = 1
            set(0, 0, 0x100000005) = true; bits(0, 0) = 4294967301
            set(1, 0, 0x4004000000000001) = true; bits(1, 0) = 4612811918334230529
            set(1, 0, 0x0000000080000000) = true; bits(1, 0) = 2147483648
            """);
        Script.run(due, "Promise 3: a number becomes the one of these bits, beyond the stops too", Script.EVERY_KIND, """
            axis(KIND) = 0; set(0, 1, 2_) = true; set(0, 2, 1_) = true; set(0, 0, 9_) = true; all(0) = 9_ 2_ 1_ 0_ 0_
            """);
    }

    private static void setOfNoSuchAxisOrNumber() {
        Script.run(due, "Promise 3: False, doing nothing: no such axis", Script.EVERY_KIND, TWO_AXES + """
            set(-1, 0, 1_) = false; set(2, 0, 1_) = false; set(3, 1, 1_) = false; set(7, 2, 1_) = false; set(8, 3, 1_) = false
            set(16, 0, 1_) = false; set(256, 0, 1_) = false; set(2147483647, 0, 1_) = false; set(-2147483648, 0, 1_) = false
            """ + UNTOUCHED + "bits(2, 0) = 0_; bits(2, 3) = 0_");
        Script.run(due, "Promise 3: False, doing nothing: no such number", Script.EVERY_KIND, TWO_AXES + """
            set(0, -1, 1_) = false; set(0, 5, 1_) = false; set(0, 6, 1_) = false; set(0, 7, 1_) = false; set(0, 8, 1_) = false
            set(1, -1, 1_) = false; set(1, 5, 1_) = false; set(0, 2147483647, 1_) = false; set(0, -2147483648, 1_) = false
            """ + UNTOUCHED);
    }

    private static void setOfNoNumber() {
        String single = "set(0, WHAT, 0x7f800001) = false; set(1, WHAT, 0xffc00000) = false; set(1, WHAT, 0x17fffffff) = false\n";
        String dbl = "set(0, WHAT, 0x7ff0000000000001) = false; set(1, WHAT, 0xfff8000000000000) = false\n";
        for (int what = -1; what <= 5; what++) {
            String number = Integer.toString(what);
            Script.run(due, "Promise 3: False, doing nothing: bits of what is no number", new int[] {Due.SINGLE},
                TWO_AXES + single.replace("WHAT", number) + UNTOUCHED);
            Script.run(due, "Promise 3: False, doing nothing: bits of what is no number", new int[] {Due.DOUBLE},
                TWO_AXES + dbl.replace("WHAT", number) + UNTOUCHED);
        }
    }

    private static void bitsWithTheirSign() {
        Script.run(due, "Promise 4: (WHOLE and SINGLE with their sign)", """
            axis(0) = 0; axis(2) = 1
            set(0, 0, 0xffffffff) = true; bits(0, 0) = -1
            set(0, 1, 0x80000000) = true; bits(0, 1) = -2147483648
            set(0, 4, 0x7fffffff) = true; bits(0, 4) = 2147483647
            set(1, 0, 0x80000000) = true; bits(1, 0) = -2147483648
            set(1, 2, 0xff7fffff) = true; bits(1, 2) = -8388609
            set(1, 3, 0x80000001) = true; bits(1, 3) = -2147483647
            set(1, 4, 0x7f7fffff) = true; bits(1, 4) = 2139095039
            set(1, 0, 0x3f800000) = true; set(1, 4, 0xbf800000) = true; orders(1, 7) = 1; bits(1, 0) = -1082130432
            """);
    }

    private static void bitsOfNoneSuch() {
        Script.run(due, "Promise 4: 0 for none such", Script.EVERY_KIND, TWO_AXES + """
            bits(0, -1) = 0; bits(0, 5) = 0; bits(0, 6) = 0; bits(0, 7) = 0; bits(0, 8) = 0; bits(1, -1) = 0; bits(1, 5) = 0
            bits(0, 2147483647) = 0; bits(0, -2147483648) = 0
            bits(-1, 0) = 0; bits(2, 0) = 0; bits(2, 1) = 0; bits(7, 2) = 0; bits(8, 0) = 0; bits(8, 2) = 0; bits(16, 0) = 0
            bits(2147483647, 0) = 0; bits(-2147483648, 0) = 0; bits(-1, -1) = 0; bits(8, 5) = 0
            """ + UNTOUCHED);
    }

    private static void ordersTellHowMany() {
        Script.run(due, "Promise 5: A row of orders is done: how many", Script.EVERY_KIND, TWO_AXES + """
            orders(0, 0) = 0; orders(0, 0x10) = 0; all(0) = 3_ -7_ 6_ 5_ -4_
            orders(0, 0xc) = 1; all(0) = -7_ -7_ 6_ 5_ -4_
            orders(0, 0xbc) = 2; all(0) = -7_ 6_ -7_ 5_ -4_
            orders(0, 0x6bc) = 3; all(0) = 6_ -7_ 6_ 5_ 1_
            orders(0, 0x11111112) = 8; orders(0, 0x1111112) = 7; orders(0, 0x111112) = 6; orders(0, 0x11112) = 5
            orders(0, 0xdddddddd) = 8; orders(0, 0xcccccccc) = 8; all(0) = -7_ -7_ 6_ 5_ 1_
            all(1) = 13_ -17_ 16_ 15_ -14_
            """);
    }

    private static void ordersOfNoSuchAxis() {
        Script.run(due, "Promise 5: NONE, doing nothing: no such axis", Script.EVERY_KIND, TWO_AXES + """
            orders(-1, 0xc) = NONE; orders(2, 0xc) = NONE; orders(7, 0xb) = NONE; orders(8, 0xb) = NONE; orders(16, 0xc) = NONE
            orders(2147483647, 0xc) = NONE; orders(-2147483648, 0xc) = NONE
            orders(-1, 0) = NONE; orders(2, 0) = NONE; orders(8, 0) = NONE; orders(2, 0xf) = NONE; orders(-1, 0xe0) = NONE
            """ + UNTOUCHED);
    }

    private static void ordersWithFourteenOrFifteen() {
        Script.run(due, "Promise 5: NONE, doing nothing: the row has a 14 ahead of the first 0", Script.EVERY_KIND, TWO_AXES + """
            orders(0, 0xe) = NONE; orders(0, 0xec) = NONE; orders(0, 0xe6b) = NONE; orders(0, 0xe6bc) = NONE
            orders(0, 0xedcba) = NONE; orders(0, 0xedcba9) = NONE; orders(0, 0xedcba98) = NONE; orders(0, 0xedcba987) = NONE
            orders(0, 0xccccccce) = NONE; orders(0, 0xce) = NONE; orders(0, 0x0ec) = NONE; orders(0, 0xd0ec) = NONE
            """ + UNTOUCHED);
        Script.run(due, "Promise 5: NONE, doing nothing: the row has a 15 ahead of the first 0", Script.EVERY_KIND, TWO_AXES + """
            orders(0, 0xf) = NONE; orders(0, 0xfc) = NONE; orders(0, 0xf6b) = NONE; orders(0, 0xf6bc) = NONE
            orders(0, 0xfdcba) = NONE; orders(0, 0xfdcba9) = NONE; orders(0, 0xfdcba98) = NONE; orders(0, 0xfdcba987) = NONE
            orders(0, 0xcccccccf) = NONE; orders(0, 0xcf) = NONE; orders(0, -1) = NONE; orders(0, 0xf00000fc) = NONE
            """ + UNTOUCHED);
        Script.run(due, "Promise 5: a 14 or 15 behind the first 0 is no hindrance", Script.EVERY_KIND, TWO_AXES + """
            orders(0, 0xe0) = 0; orders(0, 0xf0) = 0; orders(0, 0xfffffff0) = 0; all(0) = 3_ -7_ 6_ 5_ -4_
            orders(0, 0xf0c) = 1; all(0) = -7_ -7_ 6_ 5_ -4_
            orders(0, 0xe0db) = 2; all(0) = -7_ 6_ -7_ 5_ -4_
            orders(0, 0xf0cb1111) = 6; all(0) = -7_ -7_ 6_ 5_ -4_
            orders(0, 0xe000000d) = 1; all(0) = 6_ -7_ 6_ 5_ -4_
            """);
    }

    private static void orderOfPlaces() {
        Script.run(due, "Promise 7: -1, 0 or 1 as an axis's PLACE is less than, the same as, or greater", Script.EVERY_KIND,
            TWO_AXES + """
            order(0, 1) = -1; order(1, 0) = 1; order(0, 0) = 0; order(1, 1) = 0
            set(1, 0, 3_) = true; order(0, 1) = 0; set(1, 0, -3_) = true; order(0, 1) = 1; order(1, 0) = -1
            set(0, 0, -4_) = true; order(0, 1) = -1; order(1, 0) = 1
            all(0) = -4_ -7_ 6_ 5_ -4_; all(1) = -3_ -17_ 16_ 15_ -14_
            """);
        Script.run(due, "Promise 7: the ends, whose difference goes round", """
            axis(0) = 0; axis(0) = 1; axis(1) = 2; axis(1) = 3
            set(0, 0, -2147483648) = true; set(1, 0, 2147483647) = true; order(0, 1) = -1; order(1, 0) = 1
            set(2, 0, -9223372036854775808) = true; set(3, 0, 9223372036854775807) = true; order(2, 3) = -1; order(3, 2) = 1
            set(2, 0, 4294967296) = true; set(3, 0, 0) = true; order(2, 3) = 1; order(3, 2) = -1
            """);
        Script.run(due, "Promise 7: what is endless, and the numbers below 0", Script.FLOATS, """
            axis(KIND) = 0; axis(KIND) = 1
            set(0, 0, -inf_) = true; set(1, 0, inf_) = true; order(0, 1) = -1; order(1, 0) = 1; order(0, 0) = 0; order(1, 1) = 0
            set(1, 0, -inf_) = true; order(0, 1) = 0; set(1, 0, -1_) = true; order(0, 1) = -1
            set(0, 0, -1.5_) = true; order(0, 1) = -1; order(1, 0) = 1; set(0, 0, -0.5_) = true; order(0, 1) = 1
            """);
    }

    private static void orderOfNoSuchAxis() {
        Script.run(due, "Promise 7: -2: no such axis (either)", Script.EVERY_KIND, TWO_AXES + """
            order(0, -1) = -2; order(0, 2) = -2; order(0, 7) = -2; order(0, 8) = -2; order(1, 2147483647) = -2
            order(-1, 0) = -2; order(2, 0) = -2; order(7, 0) = -2; order(8, 0) = -2; order(-2147483648, 1) = -2
            order(2, 2) = -2; order(-1, -1) = -2; order(8, 8) = -2; order(-1, 8) = -2
            """ + UNTOUCHED + "order(0, 2) = 1; order(2, 2) = 0");
    }

    private static void orderOfTwoKinds() {
        Script.run(due, "Promise 7: -2: two kinds", """
            axis(0) = 0; axis(1) = 1; axis(2) = 2; axis(3) = 3
            order(0, 1) = -2; order(0, 2) = -2; order(0, 3) = -2; order(1, 0) = -2; order(1, 2) = -2; order(1, 3) = -2
            order(2, 0) = -2; order(2, 1) = -2; order(2, 3) = -2; order(3, 0) = -2; order(3, 1) = -2; order(3, 2) = -2
            order(0, 0) = 0; order(1, 1) = 0; order(2, 2) = 0; order(3, 3) = 0
            axis(0) = 4; axis(1) = 5; axis(2) = 6; axis(3) = 7
            order(0, 4) = 0; order(1, 5) = 0; order(2, 6) = 0; order(3, 7) = 0; order(0, 5) = -2; order(7, 2) = -2
            """);
    }
}
