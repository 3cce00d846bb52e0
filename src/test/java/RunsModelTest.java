/** Long runs of mixed calls, right and wrong ones, each answer against the model's; at most 512 calls a desk. */
public final class RunsModelTest {
    private static final int RUNS = 3000;
    private static final int CALLS = 512;

    private static Due due;
    private static long[][] edges;
    private static long drawn = 0;

    public static void main(String[] args) {
        due = new Due("RunsModelTest");
        edges = new long[][] {Edges.of(0), Edges.of(1), Edges.of(2), Edges.of(3)};
        for (int run = 0; run < RUNS; run++) {
            run(run);
        }
        due.end();
    }

    private static int draw(int bound) {
        drawn++;
        return (int) Long.remainderUnsigned(Edges.mixed(drawn), bound);
    }

    private static void run(int run) {
        ServoDesk desk = new ServoDesk();
        Model model = new Model();
        int first = draw(4);
        for (int call = 0; call < CALLS - 1; call++) {
            String name = "run " + run + ", call " + call + ": ";
            int axis = someNumber(4);
            int other = someNumber(4);
            int what = someNumber(5);
            switch (call < 4 ? 0 : draw(100) == 0 ? 0 : 1 + draw(6)) {
                case 0: {
                    int kind = call < 4 ? (first + call * (1 + run % 2)) % 4 : someNumber(4);
                    due.same(name + "axis " + kind, desk.axis(kind), model.axis(kind));
                    break;
                }
                case 1: {
                    long bits = someBits();
                    due.same(name + "set", desk.set(axis, what, bits) ? 1 : 0, model.set(axis, what, bits) ? 1 : 0);
                    break;
                }
                case 2:
                    due.same(name + "bits", desk.bits(axis, what), model.bits(axis, what));
                    break;
                case 3: case 4: {
                    int row = someRow();
                    due.same(name + "orders " + Integer.toHexString(row), desk.orders(axis, row), model.orders(axis, row));
                    due.same(name + "PLACE after orders", desk.bits(axis, 0), model.bits(axis, 0));
                    call++;
                    break;
                }
                case 5:
                    due.same(name + "follow", desk.follow(axis, other) ? 1 : 0, model.follow(axis, other) ? 1 : 0);
                    break;
                default:
                    due.same(name + "order", desk.order(axis, other), model.order(axis, other));
                    break;
            }
        }
    }

    /** Mostly one of the first few numbers, now and then one around them, seldom any int at all. */
    private static int someNumber(int few) {
        switch (draw(80)) {
            case 0: case 1: return draw(20) - 6;
            case 2: return (int) Edges.mixed(++drawn);
            case 3: return draw(2) == 0 ? Integer.MIN_VALUE : Integer.MAX_VALUE;
            default: return draw(few);
        }
    }

    private static long someBits() {
        switch (draw(8)) {
            case 0: return Edges.mixed(++drawn);
            case 1: return Edges.noNumbers(2 + draw(2))[draw(7)];
            default: {
                long[] row = edges[draw(4)];
                return row[draw(row.length)];
            }
        }
    }

    private static int someRow() {
        if (draw(20) == 0) {
            return (int) Edges.mixed(++drawn);
        }
        int row = 0;
        int length = draw(9);
        for (int at = 0; at < length; at++) {
            row = row << 4 | (draw(30) == 0 ? draw(16) : 1 + draw(13));
        }
        return row;
    }
}
