/** Promise 3: set takes the bits of a number, and refuses what is none without doing anything. */
public final class Promise3SetTest {
    public static void main(String[] args) {
        Due due = new Due("Promise3SetTest");
        for (int kind = 0; kind < 4; kind++) {
            for (int what = 0; what < 5; what++) {
                takesEdges(due, kind, what);
            }
            wrongPlaces(due, kind);
        }
        lowestBits(due);
        for (int kind = 2; kind < 4; kind++) {
            for (int what = 0; what < 5; what++) {
                refusesNoNumbers(due, kind, what);
            }
        }
        due.end();
    }

    private static void takesEdges(Due due, int kind, int what) {
        for (long edge : Edges.of(kind)) {
            ServoDesk desk = new ServoDesk();
            desk.axis(kind);
            desk.axis(kind);
            due.yes("set of an edge", desk.set(1, what, edge));
            for (int each = 0; each < 5; each++) {
                long first = each == Due.LOW ? Due.least(kind) : each == Due.HIGH ? Due.greatest(kind) : 0;
                due.same("number " + each + " after set of " + what, desk.bits(1, each), each == what ? edge : first);
                due.same("number " + each + " of the other axis", desk.bits(0, each), first);
            }
        }
    }

    private static void wrongPlaces(Due due, int kind) {
        ServoDesk desk = Due.deskAt(kind, Due.bitsOf(kind, 3));
        long one = Due.bitsOf(kind, 1);
        for (int wrong : new int[] {-1, 5, 6, Integer.MIN_VALUE, Integer.MAX_VALUE}) {
            due.no("set of number " + wrong, desk.set(0, wrong, one));
            due.no("set of axis " + wrong, desk.set(wrong, Due.PLACE, one));
        }
        due.no("set of an axis that is not yet made", desk.set(1, Due.PLACE, one));
        due.same("PLACE after wrong sets", desk.bits(0, Due.PLACE), Due.bitsOf(kind, 3));
        due.same("LOW after wrong sets", desk.bits(0, Due.LOW), Due.least(kind));
        due.same("HIGH after wrong sets", desk.bits(0, Due.HIGH), Due.greatest(kind));
        due.same("BAND after wrong sets", desk.bits(0, Due.BAND), 0);
        due.same("WAY after wrong sets", desk.bits(0, Due.WAY), 0);
    }

    private static void lowestBits(Due due) {
        for (int kind : new int[] {Due.WHOLE, Due.SINGLE}) {
            ServoDesk desk = Due.deskAt(kind, 0);
            due.yes("set of 33 bits", desk.set(0, Due.PLACE, 0x180000000L));
            due.same("the lowest 32 of 33 bits", desk.bits(0, Due.PLACE), -2147483648L);
            due.yes("set of 64 bits", desk.set(0, Due.PLACE, 0xffffffff00000007L));
            due.same("the lowest 32 of 64 bits", desk.bits(0, Due.PLACE), 7);
            due.yes("set of bits above 32 alone", desk.set(0, Due.PLACE, 0x7ff8000000000000L));
            due.same("bits above 32 alone", desk.bits(0, Due.PLACE), 0);
        }
    }

    private static void refusesNoNumbers(Due due, int kind, int what) {
        for (long none : Edges.noNumbers(kind)) {
            ServoDesk desk = Due.deskAt(kind, 0);
            desk.set(0, what, Due.bitsOf(kind, -2.5));
            due.no("set of no number " + Long.toHexString(none), desk.set(0, what, none));
            due.same("the number after it", desk.bits(0, what), Due.bitsOf(kind, -2.5));
        }
    }
}
