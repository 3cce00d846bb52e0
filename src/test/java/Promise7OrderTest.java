/** Promise 7: order of two PLACEs of one kind, -0 before 0. */
public final class Promise7OrderTest {
    private static Due due;

    public static void main(String[] args) {
        due = new Due("Promise7OrderTest");
        double endless = Double.POSITIVE_INFINITY;
        ascending(Due.WHOLE, bits(Due.WHOLE, -2147483648.0, -2147483647.0, -2, -1, 0, 1, 2, 2147483647.0));
        ascending(Due.LONG, new long[] {Long.MIN_VALUE, Long.MIN_VALUE + 1, -2147483649L, -1, 0, 1, 4294967296L, Long.MAX_VALUE});
        ascending(Due.SINGLE, bits(Due.SINGLE, -endless, -0x1.fffffep127, -2, -1, -0x1p-149, -0.0, 0, 0x1p-149, 1, 2,
            0x1.fffffep127, endless));
        ascending(Due.DOUBLE, bits(Due.DOUBLE, -endless, -Double.MAX_VALUE, -2, -1, -Double.MIN_VALUE, -0.0, 0,
            Double.MIN_VALUE, 1, 2, Double.MAX_VALUE, endless));
        wrongAxes();
        due.end();
    }

    private static long[] bits(int kind, double... numbers) {
        long[] row = new long[numbers.length];
        for (int at = 0; at < numbers.length; at++) {
            row[at] = Due.bitsOf(kind, numbers[at]);
        }
        return row;
    }

    private static void ascending(int kind, long[] row) {
        for (int first = 0; first < row.length; first++) {
            for (int second = 0; second < row.length; second++) {
                ServoDesk desk = Due.deskAt(kind, row[first]);
                desk.axis(kind);
                desk.set(1, Due.PLACE, row[second]);
                due.same("order in kind " + kind + " of " + row[first] + " and " + row[second], desk.order(0, 1),
                    Integer.compare(first, second));
                due.same("PLACE 0 after order", desk.bits(0, Due.PLACE), row[first]);
                due.same("PLACE 1 after order", desk.bits(1, Due.PLACE), row[second]);
            }
            due.same("order of one axis", Due.deskAt(kind, row[first]).order(0, 0), 0);
        }
    }

    private static void wrongAxes() {
        ServoDesk desk = new ServoDesk();
        for (int kind = 0; kind < 4; kind++) {
            desk.axis(kind);
        }
        for (int first = 0; first < 4; first++) {
            for (int second = 0; second < 4; second++) {
                due.same("order of kinds " + first + " and " + second, desk.order(first, second), first == second ? 0 : -2);
            }
            for (int wrong : new int[] {-1, 4, 8, Integer.MIN_VALUE, Integer.MAX_VALUE}) {
                due.same("order with axis " + wrong, desk.order(first, wrong), -2);
                due.same("order of axis " + wrong, desk.order(wrong, first), -2);
                due.same("order of axis " + wrong + " twice", desk.order(wrong, wrong), -2);
            }
        }
    }
}
