/** All promises against the model at the kinds' edges: every order, every pair of kinds, every pair of places. */
public final class EdgesModelTest {
    private static Due due;

    public static void main(String[] args) {
        due = new Due("EdgesModelTest");
        for (int kind = 0; kind < 4; kind++) {
            long[] edges = Edges.of(kind);
            for (int first = 0; first < edges.length; first++) {
                for (int second = 0; second < edges.length; second++) {
                    ordersAt(kind, edges[first], edges[second], edges[(first + 7 * second) % edges.length]);
                }
                follows(kind, edges[first]);
            }
        }
        manyFollows();
        due.end();
    }

    private static void ordersAt(int kind, long place, long second, long third) {
        ServoDesk desk = new ServoDesk();
        Model model = new Model();
        desk.axis(kind);
        model.axis(kind);
        long[] before = {place, second, third, second, second};
        for (int order = 1; order <= 13; order++) {
            for (int what = 0; what < 5; what++) {
                desk.set(0, what, before[what]);
                model.set(0, what, before[what]);
            }
            due.same("order " + order, desk.orders(0, order), model.orders(0, order));
            for (int what = 0; what < 5; what++) {
                due.same("kind " + kind + ", order " + order + " at " + place + " with " + second + " and " + third
                    + ": number " + what, desk.bits(0, what), model.bits(0, what));
            }
        }
        desk.axis(kind);
        model.axis(kind);
        desk.set(0, 0, place);
        model.set(0, 0, place);
        desk.set(1, 0, second);
        model.set(1, 0, second);
        due.same("kind " + kind + ", " + place + " and " + second, desk.order(0, 1), model.order(0, 1));
    }

    private static void follows(int from, long place) {
        ServoDesk desk = new ServoDesk();
        Model model = new Model();
        desk.axis(from);
        model.axis(from);
        due.same("set", desk.set(0, 0, place) ? 1 : 0, model.set(0, 0, place) ? 1 : 0);
        for (int to = 0; to < 4; to++) {
            desk.axis(to);
            model.axis(to);
            due.same("follow", desk.follow(to + 1, 0) ? 1 : 0, model.follow(to + 1, 0) ? 1 : 0);
            due.same("kind " + from + " at " + place + " to kind " + to, desk.bits(to + 1, 0), model.bits(to + 1, 0));
        }
    }

    /** Places of every length and exponent, those with few bits set too, where roundings end in the middle. */
    private static void manyFollows() {
        for (int step = 0; step < 100000; step++) {
            long mixed = Edges.mixed(step);
            int from = step & 3;
            long place = step % 3 == 0 ? mixed >> (mixed & 63) : step % 3 == 1 ? mixed & mixed << 9 & mixed << 23 : mixed;
            follows(from, place);
            if (from == Due.DOUBLE) {
                long narrow = mixed & 0x80ffffffffffffffL | 0x3800000000000000L;
                follows(from, step % 3 == 0 ? narrow & ~0xfffffffL : narrow);
            }
        }
    }
}
