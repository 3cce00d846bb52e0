/** Promise 1: a new object has no axes, whatever another one has. */
public final class Promise1NewTest {
    public static void main(String[] args) {
        Due due = new Due("Promise1NewTest");
        ServoDesk other = new ServoDesk();
        other.axis(Due.WHOLE);
        other.set(0, Due.PLACE, 5);
        ServoDesk desk = new ServoDesk();
        for (int axis : new int[] {-1, 0, 1, 7, 8, Integer.MIN_VALUE, Integer.MAX_VALUE}) {
            for (int what = -1; what <= 5; what++) {
                due.no("set of no axis", desk.set(axis, what, 1));
                due.same("bits of no axis", desk.bits(axis, what), 0);
            }
            due.same("orders of no axis", desk.orders(axis, 1), -1);
            due.same("no orders of no axis", desk.orders(axis, 0), -1);
            due.no("follow of no axis", desk.follow(axis, axis));
            due.same("order of no axis", desk.order(axis, axis), -2);
        }
        due.same("the first axis", desk.axis(Due.LONG), 0);
        due.same("the other desk's place", other.bits(0, Due.PLACE), 5);
        due.end();
    }
}
