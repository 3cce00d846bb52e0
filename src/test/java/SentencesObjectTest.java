/** The sentences of "What it is": 512 calls of one object, all with their answers, and objects beside one another. */
public final class SentencesObjectTest {
    private static final int MOST_CALLS = 512;
    private static final int DESKS = 1000;

    /** Seven axes, then one number of each kind that is asked for at the very end: 11 calls. */
    private static final String SEVEN_AXES = """
        axis(0) = 0; axis(1) = 1; axis(2) = 2; axis(3) = 3; axis(0) = 4; axis(3) = 5; axis(2) = 6
        set(0, 4, -77) = true; set(1, 4, 9223372036854775807) = true; set(2, 4, -0f) = true; set(3, 4, 0x1p-1074d) = true
        """;

    /** Leaves the desk as it found it, so that it may be said again and again: 16 calls. */
    private static final String ROUND = """
        set(4, 0, 9) = true; set(4, 1, -3) = true; set(4, 2, 5) = true; orders(4, 0x1) = 1; bits(4, 0) = 5; bits(4, 4) = 0
        follow(5, 4) = true; bits(5, 0) = 5d; order(5, 3) = 1; order(5, 4) = -2; orders(5, 0x90) = 0; orders(5, 0xe) = NONE
        set(6, 0, 0x7fc00000) = false; bits(6, 5) = 0; axis(4) = NONE; follow(7, 0) = false
        """;

    private static Due due;

    public static void main(String[] args) {
        due = new Due("SentencesObjectTest");
        allCallsAnswer();
        eachMethodIsTheLastCall();
        objectsBesideOneAnother();
        manyObjects();
        due.end();
    }

    /** As many calls as an object is used for, the last of them as written. */
    private static void filled(String sentence, String last) {
        StringBuilder text = new StringBuilder(SEVEN_AXES + ROUND.repeat(30));
        int written = 11 + 30 * 16 + last.split(";").length;
        for (int calls = written; calls < MOST_CALLS; calls++) {
            text.append("order(0, 4) = -1\n");
        }
        due.same(sentence + ": calls", Script.run(due, sentence, text + last), MOST_CALLS);
    }

    private static void allCallsAnswer() {
        filled("An object is used for at most 512 calls: what was set first stands last", """
            bits(0, 4) = -77; bits(1, 4) = 9223372036854775807; bits(2, 4) = -0f; bits(3, 4) = 0x1p-1074d;
            bits(4, 0) = 5; bits(5, 0) = 5d; bits(6, 1) = -inff; bits(0, 1) = -2147483648""");
    }

    private static void eachMethodIsTheLastCall() {
        String sentence = "An object is used for at most 512 calls: the last one is ";
        filled(sentence + "axis", "axis(3) = 7");
        filled(sentence + "axis, there being eight", "axis(1) = 7; axis(1) = NONE");
        filled(sentence + "set", "set(0, 0, 1) = true");
        filled(sentence + "set, shown by bits", "set(2, 3, -1.5f) = true; bits(2, 3) = -1.5f");
        filled(sentence + "orders", "orders(5, 0x91111111) = 8");
        filled(sentence + "orders, shown by bits", "orders(4, 0xc) = 1; bits(4, 0) = -3");
        filled(sentence + "follow", "follow(6, 5) = true");
        filled(sentence + "follow, shown by bits", "follow(6, 5) = true; bits(6, 0) = 5f");
        filled(sentence + "order", "order(4, 0) = 1");
    }

    private static void objectsBesideOneAnother() {
        ServoDesk first = new ServoDesk();
        due.same("first.axis(3)", first.axis(3), 0);
        ServoDesk second = new ServoDesk();
        due.same("second.axis(0)", second.axis(0), 0);
        due.yes("first.set(0, 0, -0.0)", first.set(0, 0, 0x8000000000000000L));
        due.yes("second.set(0, 0, 7)", second.set(0, 0, 7));
        due.same("first.orders(0, LOOK)", first.orders(0, 6), 1);
        due.same("second.orders(0, LOOK)", second.orders(0, 6), 1);
        due.same("first.bits(0, PLACE)", first.bits(0, 0), 0x8000000000000000L);
        due.same("first.bits(0, WAY)", first.bits(0, 4), 0x8000000000000000L);
        due.same("second.bits(0, PLACE)", second.bits(0, 0), 7);
        due.same("second.bits(0, WAY)", second.bits(0, 4), 1);
        due.same("second.axis(1)", second.axis(1), 1);
        due.no("first.follow(0, 1)", first.follow(0, 1));
        due.same("first.axis(2)", first.axis(2), 1);
    }

    private static void manyObjects() {
        ServoDesk[] desks = new ServoDesk[DESKS];
        for (int at = 0; at < DESKS; at++) {
            desks[at] = new ServoDesk();
            for (int axis = 0; axis < 8; axis++) {
                due.same("axis " + axis + " of desk " + at, desks[at].axis(axis % 4), axis);
                due.yes("set of desk " + at, desks[at].set(axis, Due.PLACE, 10 * at + axis));
            }
        }
        for (int at = 0; at < DESKS; at++) {
            for (int axis = 0; axis < 8; axis++) {
                due.same("bits of axis " + axis + " of desk " + at, desks[at].bits(axis, Due.PLACE), 10 * at + axis);
            }
        }
    }
}
