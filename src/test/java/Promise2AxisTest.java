/** Promise 2: axes are numbered from 0 to 7, of four kinds, and are at first as the terms say. */
public final class Promise2AxisTest {
    public static void main(String[] args) {
        Due due = new Due("Promise2AxisTest");
        firstNumbers(due);
        eightAndNoMore(due);
        noSuchKind(due);
        due.end();
    }

    private static void firstNumbers(Due due) {
        long[] lows = {-2147483648L, -9223372036854775808L, 0xffffffffff800000L, 0xfff0000000000000L};
        long[] highs = {2147483647L, 9223372036854775807L, 0x7f800000L, 0x7ff0000000000000L};
        ServoDesk desk = new ServoDesk();
        for (int kind = 0; kind < 4; kind++) {
            due.same("axis(" + kind + ")", desk.axis(kind), kind);
            due.same("PLACE at first, kind " + kind, desk.bits(kind, Due.PLACE), 0);
            due.same("LOW at first, kind " + kind, desk.bits(kind, Due.LOW), lows[kind]);
            due.same("HIGH at first, kind " + kind, desk.bits(kind, Due.HIGH), highs[kind]);
            due.same("BAND at first, kind " + kind, desk.bits(kind, Due.BAND), 0);
            due.same("WAY at first, kind " + kind, desk.bits(kind, Due.WAY), 0);
        }
    }

    private static void eightAndNoMore(Due due) {
        for (int kind = 0; kind < 4; kind++) {
            ServoDesk desk = new ServoDesk();
            for (int number = 0; number < 8; number++) {
                due.no("set of an axis that is yet to come", desk.set(number, Due.PLACE, 1));
                due.same("axis " + number, desk.axis((kind + number) % 4), number);
                due.yes("set of the new axis", desk.set(number, Due.PLACE, number));
            }
            due.same("a ninth axis", desk.axis(kind), -1);
            due.same("a tenth axis", desk.axis(kind), -1);
            due.no("set of the ninth axis", desk.set(8, Due.PLACE, 1));
            for (int number = 0; number < 8; number++) {
                due.same("PLACE of axis " + number, desk.bits(number, Due.PLACE), number);
            }
        }
    }

    private static void noSuchKind(Due due) {
        ServoDesk desk = new ServoDesk();
        for (int kind : new int[] {-1, 4, 5, Integer.MIN_VALUE, Integer.MAX_VALUE}) {
            due.same("axis(" + kind + ")", desk.axis(kind), -1);
            due.same("axis(" + kind + ") makes nothing", desk.orders(0, 0), -1);
        }
        due.same("the first axis after wrong ones", desk.axis(Due.SINGLE), 0);
    }
}
