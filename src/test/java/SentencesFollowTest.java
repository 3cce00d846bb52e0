/** The sentences of promise 6, a test each: what a PLACE becomes in another kind, and who may follow whom. */
public final class SentencesFollowTest {
    private static Due due;

    public static void main(String[] args) {
        due = new Due("SentencesFollowTest");
        onlyPlaceBecomesAnothers();
        floatingToWholeTowardsZero();
        beyondTheLeastOrGreatest();
        justWithinTheLeastAndGreatest();
        longToWhole();
        wholeToLong();
        wholesToSingle();
        wholesToDouble();
        doubleToSingle();
        doubleToSingleBeyond();
        doubleToSmallestSingles();
        singleToDouble();
        sameKind();
        noSuchAxis();
        due.end();
    }

    /** Lines of "other's PLACE -> PLACE": an axis that stood at 77 follows one of another kind, which stays. */
    private static void follows(String sentence, int from, int to, String text) {
        for (String line : text.split("\n")) {
            String[] sides = line.split("->");
            String before = sides[0].trim();
            String seventySeven = to == Due.SINGLE ? "77f" : to == Due.DOUBLE ? "77d" : "77";
            Script.run(due, "Promise 6: " + sentence, "axis(" + from + ") = 0; axis(" + to + ") = 1; set(0, 0, " + before
                + ") = true; set(1, 0, " + seventySeven + ") = true; follow(1, 0) = true; bits(1, 0) = " + sides[1].trim()
                + "; bits(0, 0) = " + before);
        }
    }

    private static void onlyPlaceBecomesAnothers() {
        Script.run(due, "Promise 6: An axis's PLACE becomes another's, and nothing else changes", Script.EVERY_KIND, """
            axis(KIND) = 0; axis(3) = 1; axis(KIND) = 2
            set(0, 0, 3_) = true; set(0, 1, -7_) = true; set(0, 2, 6_) = true; set(0, 3, 5_) = true; set(0, 4, -4_) = true
            set(1, 0, -9d) = true; set(1, 1, 1d) = true; set(1, 2, 2d) = true; set(1, 3, 4d) = true; set(1, 4, 8d) = true
            follow(0, 1) = true
            all(0) = -9_ -7_ 6_ 5_ -4_; all(1) = -9d 1d 2d 4d 8d; bits(2, 0) = 0_
            follow(2, 0) = true; bits(2, 0) = -9_; follow(1, 2) = true; bits(1, 0) = -9d
            """);
    }

    private static void floatingToWholeTowardsZero() {
        String single = """
            0f -> 0
            -0f -> 0
            0x1p-149f -> 0
            -0x1p-149f -> 0
            0x1.fffffep-1f -> 0
            -0x1.fffffep-1f -> 0
            1f -> 1
            -1f -> -1
            1.5f -> 1
            -1.5f -> -1
            0x1.fffffep0f -> 1
            -0x1.fffffep0f -> -1
            2.75f -> 2
            -2.75f -> -2
            8388607.5f -> 8388607
            -8388607.5f -> -8388607
            16777216f -> 16777216""";
        String dbl = """
            0d -> 0
            -0d -> 0
            0x1p-1074d -> 0
            -0x1p-1074d -> 0
            0x1.fffffffffffffp-1d -> 0
            -0x1.fffffffffffffp-1d -> 0
            1d -> 1
            -1d -> -1
            1.5d -> 1
            -1.5d -> -1
            0x1.fffffffffffffp0d -> 1
            -0x1.fffffffffffffp0d -> -1
            2.75d -> 2
            -2.75d -> -2
            2147483646.75d -> 2147483646
            -2147483646.75d -> -2147483646
            16777217d -> 16777217""";
        for (int to : Script.WHOLES) {
            follows("floating to whole towards 0", Due.SINGLE, to, single);
            follows("floating to whole towards 0", Due.DOUBLE, to, dbl);
        }
        follows("floating to whole towards 0", Due.DOUBLE, Due.LONG, """
            4503599627370495.5d -> 4503599627370495
            -4503599627370495.5d -> -4503599627370495
            9007199254740993d -> 9007199254740992""");
    }

    private static void beyondTheLeastOrGreatest() {
        follows("what is beyond the least or greatest that", Due.SINGLE, Due.WHOLE, """
            2147483648f -> 2147483647
            4294967296f -> 2147483647
            1e30f -> 2147483647
            0x1.fffffep127f -> 2147483647
            inff -> 2147483647
            -2147483904f -> -2147483648
            -4294967296f -> -2147483648
            -1e30f -> -2147483648
            -inff -> -2147483648""");
        follows("what is beyond the least or greatest that", Due.DOUBLE, Due.WHOLE, """
            2147483648d -> 2147483647
            2147483648.5d -> 2147483647
            4294967296d -> 2147483647
            4294967301d -> 2147483647
            9223372036854775808d -> 2147483647
            1e300d -> 2147483647
            infd -> 2147483647
            -2147483649d -> -2147483648
            -4294967296d -> -2147483648
            -9223372036854775808d -> -2147483648
            -1e300d -> -2147483648
            -infd -> -2147483648""");
        follows("what is beyond the least or greatest that", Due.SINGLE, Due.LONG, """
            9223372036854775808f -> 9223372036854775807
            18446744073709551616f -> 9223372036854775807
            1e30f -> 9223372036854775807
            inff -> 9223372036854775807
            -0x1.000002p63f -> -9223372036854775808
            -1e30f -> -9223372036854775808
            -inff -> -9223372036854775808""");
        follows("what is beyond the least or greatest that", Due.DOUBLE, Due.LONG, """
            9223372036854775808d -> 9223372036854775807
            18446744073709551616d -> 9223372036854775807
            1e300d -> 9223372036854775807
            infd -> 9223372036854775807
            -0x1.0000000000001p63d -> -9223372036854775808
            -1e300d -> -9223372036854775808
            -infd -> -9223372036854775808""");
    }

    private static void justWithinTheLeastAndGreatest() {
        follows("what is not beyond the least or greatest", Due.SINGLE, Due.WHOLE, """
            2147483520f -> 2147483520
            -2147483520f -> -2147483520
            -2147483648f -> -2147483648""");
        follows("what is not beyond the least or greatest", Due.DOUBLE, Due.WHOLE, """
            2147483647d -> 2147483647
            2147483647.75d -> 2147483647
            2147483646d -> 2147483646
            -2147483647d -> -2147483647
            -2147483648d -> -2147483648
            -2147483648.75d -> -2147483648""");
        follows("what is not beyond the least or greatest", Due.SINGLE, Due.LONG, """
            2147483648f -> 2147483648
            0x1.fffffep62f -> 9223371487098961920
            -0x1.fffffep62f -> -9223371487098961920
            -9223372036854775808f -> -9223372036854775808""");
        follows("what is not beyond the least or greatest", Due.DOUBLE, Due.LONG, """
            2147483648d -> 2147483648
            -2147483649d -> -2147483649
            0x1.fffffffffffffp62d -> 9223372036854774784
            -0x1.fffffffffffffp62d -> -9223372036854774784
            -9223372036854775808d -> -9223372036854775808""");
    }

    private static void longToWhole() {
        follows("LONG to WHOLE its lowest 32 bits", Due.LONG, Due.WHOLE, """
            5 -> 5
            -5 -> -5
            2147483647 -> 2147483647
            2147483648 -> -2147483648
            4294967295 -> -1
            4294967296 -> 0
            4294967301 -> 5
            -2147483648 -> -2147483648
            -2147483649 -> 2147483647
            -4294967296 -> 0
            9223372036854775807 -> -1
            -9223372036854775808 -> 0""");
    }

    private static void wholeToLong() {
        follows("WHOLE to LONG is itself", Due.WHOLE, Due.LONG, """
            0 -> 0
            -1 -> -1
            2147483647 -> 2147483647
            -2147483648 -> -2147483648""");
    }

    private static void wholesToSingle() {
        for (int from : Script.WHOLES) {
            follows("to floating the nearest (of two the even one), to SINGLE", from, Due.SINGLE, """
                0 -> 0f
                1 -> 1f
                -1 -> -1f
                16777215 -> 0x1.fffffep23f
                16777216 -> 0x1p24f
                16777217 -> 0x1p24f
                16777218 -> 0x1.000002p24f
                16777219 -> 0x1.000004p24f
                -16777217 -> -0x1p24f
                -16777219 -> -0x1.000004p24f
                33554434 -> 0x1p25f
                33554435 -> 0x1.000002p25f
                33554437 -> 0x1.000002p25f
                33554438 -> 0x1.000004p25f
                2147483583 -> 0x1.fffffep30f
                2147483584 -> 0x1p31f
                2147483647 -> 0x1p31f
                -2147483647 -> -0x1p31f
                -2147483648 -> -0x1p31f""");
        }
        follows("to floating the nearest (of two the even one), LONG to SINGLE", Due.LONG, Due.SINGLE, """
            9223371761976868863 -> 0x1.fffffep62f
            9223371761976868864 -> 0x1p63f
            9223372036854775807 -> 0x1p63f
            -9223372036854775808 -> -0x1p63f
            4611686293305294848 -> 0x1p62f
            4611686293305294849 -> 0x1.000002p62f
            4611686293305294847 -> 0x1p62f
            -4611686293305294849 -> -0x1.000002p62f
            9007199791611905 -> 0x1.000002p53f""");
    }

    private static void wholesToDouble() {
        for (int from : Script.WHOLES) {
            follows("to floating the nearest, to DOUBLE", from, Due.DOUBLE, """
                0 -> 0d
                1 -> 1d
                -1 -> -1d
                16777217 -> 16777217d
                2147483647 -> 2147483647d
                -2147483648 -> -2147483648d""");
        }
        follows("to floating the nearest (of two the even one), LONG to DOUBLE", Due.LONG, Due.DOUBLE, """
            9007199254740991 -> 0x1.fffffffffffffp52d
            9007199254740992 -> 0x1p53d
            9007199254740993 -> 0x1p53d
            9007199254740994 -> 0x1.0000000000001p53d
            9007199254740995 -> 0x1.0000000000002p53d
            -9007199254740993 -> -0x1p53d
            -9007199254740995 -> -0x1.0000000000002p53d
            18014398509481986 -> 0x1p54d
            18014398509481987 -> 0x1.0000000000001p54d
            9223372036854775295 -> 0x1.fffffffffffffp62d
            9223372036854775296 -> 0x1p63d
            9223372036854775807 -> 0x1p63d
            -9223372036854775807 -> -0x1p63d
            -9223372036854775808 -> -0x1p63d""");
    }

    private static void doubleToSingle() {
        follows("to floating the nearest (of two the even one), DOUBLE to SINGLE", Due.DOUBLE, Due.SINGLE, """
            0d -> 0f
            -0d -> -0f
            1.5d -> 1.5f
            -1.5d -> -1.5f
            0x1.000001p0d -> 1f
            0x1.0000010000001p0d -> 0x1.000002p0f
            0x1.000000fffffffp0d -> 1f
            0x1.000003p0d -> 0x1.000004p0f
            0x1.0000030000001p0d -> 0x1.000004p0f
            0x1.000002fffffffp0d -> 0x1.000002p0f
            -0x1.000001p0d -> -1f
            -0x1.000003p0d -> -0x1.000004p0f
            0x1.ffffffp0d -> 2f
            0x1.fffffefffffffp0d -> 0x1.fffffep0f
            infd -> inff
            -infd -> -inff""");
    }

    private static void doubleToSingleBeyond() {
        follows("to floating the nearest, beyond the last finite SINGLE", Due.DOUBLE, Due.SINGLE, """
            0x1.fffffep127d -> 0x1.fffffep127f
            0x1.fffffefffffffp127d -> 0x1.fffffep127f
            0x1.ffffffp127d -> inff
            0x1p128d -> inff
            1e300d -> inff
            0x1.fffffffffffffp1023d -> inff
            -0x1.fffffefffffffp127d -> -0x1.fffffep127f
            -0x1.ffffffp127d -> -inff
            -1e300d -> -inff""");
    }

    private static void doubleToSmallestSingles() {
        follows("to floating the nearest (of two the even one), among the smallest", Due.DOUBLE, Due.SINGLE, """
            0x1p-126d -> 0x1p-126f
            0x1.ffffffp-127d -> 0x1p-126f
            0x1.fffffep-127d -> 0x1p-126f
            0x1.fffffdfffffffp-127d -> 0x1.fffffcp-127f
            0x1.fffffcp-127d -> 0x1.fffffcp-127f
            0x1.cp-148d -> 0x1p-147f
            0x1.4p-148d -> 0x1p-148f
            0x1.8p-149d -> 0x1p-148f
            0x1.7ffffffffffffp-149d -> 0x1p-149f
            0x1p-149d -> 0x1p-149f
            0x1.0000000000001p-150d -> 0x1p-149f
            0x1p-150d -> 0f
            0x1.fffffffffffffp-151d -> 0f
            0x1p-1022d -> 0f
            0x1p-1074d -> 0f
            -0x1.0000000000001p-150d -> -0x1p-149f
            -0x1p-150d -> -0f
            -0x1p-1074d -> -0f""");
    }

    private static void singleToDouble() {
        follows("SINGLE to DOUBLE is the same number", Due.SINGLE, Due.DOUBLE, """
            0f -> 0d
            -0f -> -0d
            1.5f -> 1.5d
            -0x1.000002p0f -> -0x1.000002p0d
            0x1.fffffep127f -> 0x1.fffffep127d
            0x1p-126f -> 0x1p-126d
            0x1.fffffcp-127f -> 0x1.fffffcp-127d
            0x1.8p-148f -> 0x1.8p-148d
            0x1p-149f -> 0x1p-149d
            -0x1p-149f -> -0x1p-149d
            inff -> infd
            -inff -> -infd""");
    }

    private static void sameKind() {
        follows("the same kind", Due.WHOLE, Due.WHOLE, "-2147483648 -> -2147483648\n2147483647 -> 2147483647\n-1 -> -1");
        follows("the same kind", Due.LONG, Due.LONG, """
            -9223372036854775808 -> -9223372036854775808
            9223372036854775807 -> 9223372036854775807
            4294967296 -> 4294967296""");
        follows("the same kind", Due.SINGLE, Due.SINGLE, """
            -0f -> -0f
            0x1p-149f -> 0x1p-149f
            -0x1.fffffep127f -> -0x1.fffffep127f
            -inff -> -inff""");
        follows("the same kind", Due.DOUBLE, Due.DOUBLE, """
            -0d -> -0d
            0x1p-1074d -> 0x1p-1074d
            -0x1.fffffffffffffp1023d -> -0x1.fffffffffffffp1023d
            -infd -> -infd""");
        Script.run(due, "Promise 6: an axis follows itself", Script.EVERY_KIND, """
            axis(KIND) = 0; set(0, 0, -3_) = true; follow(0, 0) = true; bits(0, 0) = -3_
            """);
    }

    private static void noSuchAxis() {
        Script.run(due, "Promise 6: False, doing nothing: no such axis (either)", Script.EVERY_KIND, """
            axis(KIND) = 0; axis(KIND) = 1; set(0, 0, 3_) = true; set(1, 0, 4_) = true
            follow(0, -1) = false; follow(0, 2) = false; follow(0, 7) = false; follow(0, 8) = false
            follow(0, 2147483647) = false; follow(1, -2147483648) = false
            follow(-1, 0) = false; follow(2, 0) = false; follow(7, 1) = false; follow(8, 1) = false
            follow(2147483647, 0) = false; follow(-2147483648, 0) = false
            follow(-1, -1) = false; follow(2, 2) = false; follow(8, 8) = false
            bits(0, 0) = 3_; bits(1, 0) = 4_; bits(0, 4) = 0_; bits(1, 4) = 0_
            axis(KIND) = 2; bits(2, 0) = 0_; follow(2, 1) = true; bits(2, 0) = 4_
            """);
    }
}
