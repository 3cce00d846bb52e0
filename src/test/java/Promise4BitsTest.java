/** Promise 4: bits tells a number with its sign, 0 for none such, and changes nothing. */
public final class Promise4BitsTest {
    public static void main(String[] args) {
        Due due = new Due("Promise4BitsTest");
        long[][] written = {
            {-1, 1, 2147483647L, -2147483648L, 0},
            {-1, 1L << 40, Long.MAX_VALUE, Long.MIN_VALUE, 0},
            {0xffffffffbf800000L, 0x3f800000L, 0x7f800000L, 0xffffffff80000000L, 1},
            {0xbff0000000000000L, 0x3ff0000000000000L, 0x7ff0000000000000L, 0x8000000000000000L, 1}
        };
        for (int kind = 0; kind < 4; kind++) {
            ServoDesk desk = new ServoDesk();
            desk.axis(kind);
            for (int what = 0; what < 5; what++) {
                desk.set(0, what, written[kind][what]);
            }
            for (int round = 0; round < 2; round++) {
                for (int what = 0; what < 5; what++) {
                    due.same("bits of kind " + kind + ", number " + what, desk.bits(0, what), written[kind][what]);
                }
                for (int wrong : new int[] {-1, 5, 6, Integer.MIN_VALUE, Integer.MAX_VALUE}) {
                    due.same("bits of number " + wrong, desk.bits(0, wrong), 0);
                    due.same("bits of axis " + wrong, desk.bits(wrong, 1), 0);
                }
                due.same("bits of an axis that is not yet made", desk.bits(1, Due.LOW), 0);
            }
        }
        due.end();
    }
}
