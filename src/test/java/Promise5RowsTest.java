/** Promise 5, the row: its length, its order from the lowest bits up, and rows that do nothing. */
public final class Promise5RowsTest {
    public static void main(String[] args) {
        Due due = new Due("Promise5RowsTest");
        for (int kind = 0; kind < 4; kind++) {
            lengths(due, kind);
            noOrders(due, kind);
            lowestFirst(due, kind);
        }
        due.end();
    }

    private static void lengths(Due due, int kind) {
        int row = 0;
        for (int length = 0; length <= 8; length++) {
            ServoDesk desk = Due.deskAt(kind, 0);
            due.same("a row of " + length, desk.orders(0, row), length);
            // An odd number of exchanges is to be seen, so each order of the row counts.
            due.same("LOW after a row of " + length, desk.bits(0, Due.LOW),
                length % 2 == 0 ? Due.least(kind) : Due.greatest(kind));
            row = row << 4 | 11;
        }
        ServoDesk desk = Due.deskAt(kind, 0);
        due.same("eight times 13", desk.orders(0, 0xdddddddd), 8);
        due.same("eight times 1", desk.orders(0, 0x11111111), 8);
        due.same("a 0 in front", desk.orders(0, 0xddddddd0), 0);
        due.same("a 0 in between", desk.orders(0, 0xbbbb0bbb), 3);
        due.same("LOW after three exchanges", desk.bits(0, Due.LOW), Due.greatest(kind));
    }

    private static void noOrders(Due due, int kind) {
        long three = Due.bitsOf(kind, 3);
        ServoDesk desk = Due.deskAt(kind, three);
        for (int at = 0; at < 8; at++) {
            for (int no = 14; no <= 15; no++) {
                int filled = 0xcccccccc & ~(15 << 4 * at) | no << 4 * at;
                due.same("a row with " + no + " at " + at, desk.orders(0, filled), -1);
                due.same("PLACE after it", desk.bits(0, Due.PLACE), three);
            }
        }
        for (int axis : new int[] {-1, 1, 8, Integer.MIN_VALUE, Integer.MAX_VALUE}) {
            due.same("orders of axis " + axis, desk.orders(axis, 12), -1);
            due.same("no orders of axis " + axis, desk.orders(axis, 0), -1);
        }
        for (int no = 14; no <= 15; no++) {
            due.same("a row of " + no + " behind the first 0", desk.orders(0, no << 4), 0);
            due.same("a row with " + no + " last, behind the first 0", desk.orders(0, no << 28 | 0xb), 1);
        }
        due.same("PLACE after all", desk.bits(0, Due.PLACE), three);
        due.same("FALL ahead of the first 0", desk.orders(0, 0xfe0c), 1);
        due.same("PLACE after FALL", desk.bits(0, Due.PLACE), Due.least(kind));
    }

    private static void lowestFirst(Due due, int kind) {
        ServoDesk desk = Due.deskAt(kind, Due.bitsOf(kind, -3));
        due.same("LOOK, SIZE, WIDEN by row", desk.orders(0, 0x26), 2);
        due.same("PLACE is sized last", desk.bits(0, Due.PLACE), Due.bitsOf(kind, 3));
        due.same("WAY is looked at first", desk.bits(0, Due.WAY), Due.bitsOf(kind, -1));
        due.same("TURN, GRID, SWAP, FALL", desk.orders(0, 0xcba7), 4);
        due.same("PLACE after them", desk.bits(0, Due.PLACE), Due.bitsOf(kind, -3));
        due.same("LOW after them", desk.bits(0, Due.LOW), Due.bitsOf(kind, -3));
        due.same("HIGH after them", desk.bits(0, Due.HIGH), Due.bitsOf(kind, -3));
    }
}
