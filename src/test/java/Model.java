/** A second desk, made another way: of Java's own floating numbers and the Math library, which ServoDesk may not use. */
final class Model {
    private final int[] kinds = new int[8];
    private final long[][] numbers = new long[8][5];
    private int count = 0;

    int axis(int kind) {
        if (kind < 0 || kind > 3 || count == 8) {
            return -1;
        }
        kinds[count] = kind;
        numbers[count][1] = Due.least(kind);
        numbers[count][2] = Due.greatest(kind);
        return count++;
    }

    boolean set(int axis, int what, long bits) {
        if (!has(axis) || what < 0 || what > 4) {
            return false;
        }
        int kind = kinds[axis];
        if (kind == Due.SINGLE && Float.isNaN(Float.intBitsToFloat((int) bits))
            || kind == Due.DOUBLE && Double.isNaN(Double.longBitsToDouble(bits))) {
            return false;
        }
        numbers[axis][what] = kind == Due.WHOLE || kind == Due.SINGLE ? (int) bits : bits;
        return true;
    }

    long bits(int axis, int what) {
        return has(axis) && what >= 0 && what <= 4 ? numbers[axis][what] : 0;
    }

    int orders(int axis, int row) {
        if (!has(axis)) {
            return -1;
        }
        int done = 0;
        long[] after = numbers[axis].clone();
        for (String digits = new StringBuilder(String.format("%08x", row)).reverse().toString(); done < 8; done++) {
            int order = Character.digit(digits.charAt(done), 16);
            if (order == 0) {
                break;
            }
            if (order > 13) {
                return -1;
            }
            obey(kinds[axis], after, order);
        }
        numbers[axis] = after;
        return done;
    }

    boolean follow(int axis, int other) {
        if (!has(axis) || !has(other)) {
            return false;
        }
        numbers[axis][0] = made(kinds[axis], kinds[other], numbers[other][0]);
        return true;
    }

    int order(int axis, int other) {
        if (!has(axis) || !has(other) || kinds[axis] != kinds[other]) {
            return -2;
        }
        long first = numbers[axis][0];
        long second = numbers[other][0];
        switch (kinds[axis]) {
            case Due.SINGLE: return Float.compare(single(first), single(second));
            case Due.DOUBLE: return Double.compare(dbl(first), dbl(second));
            default: return Long.compare(first, second);
        }
    }

    private boolean has(int axis) {
        return axis >= 0 && axis < count;
    }

    private static float single(long bits) {
        return Float.intBitsToFloat((int) bits);
    }

    private static double dbl(long bits) {
        return Double.longBitsToDouble(bits);
    }

    private static long made(int to, int from, long bits) {
        switch (to) {
            case Due.WHOLE:
                return from == Due.SINGLE ? (int) single(bits) : from == Due.DOUBLE ? (int) dbl(bits) : (int) bits;
            case Due.LONG:
                return from == Due.SINGLE ? (long) single(bits) : from == Due.DOUBLE ? (long) dbl(bits) : bits;
            case Due.SINGLE:
                return Float.floatToRawIntBits(
                    from == Due.SINGLE ? single(bits) : from == Due.DOUBLE ? (float) dbl(bits) : (float) bits);
            default:
                return Double.doubleToRawLongBits(
                    from == Due.SINGLE ? (double) single(bits) : from == Due.DOUBLE ? dbl(bits) : (double) bits);
        }
    }

    private static void obey(int kind, long[] n, int order) {
        switch (order) {
            case 11: { long low = n[1]; n[1] = n[2]; n[2] = low; return; }
            case 12: n[0] = n[1]; return;
            case 13: n[0] = n[2]; return;
            default: break;
        }
        switch (kind) {
            case Due.WHOLE: obeyWhole(n, order); break;
            case Due.LONG: obeyLong(n, order); break;
            case Due.SINGLE: obeySingle(n, order); break;
            default: obeyDouble(n, order); break;
        }
    }

    private static void obeyWhole(long[] n, int order) {
        int place = (int) n[0];
        switch (order) {
            case 1: n[0] = Math.max((int) n[1], Math.min((int) n[2], place)); break;
            case 2: n[0] = Math.abs(place); break;
            case 6: n[4] = Integer.signum(place); break;
            case 7: n[0] = (int) n[4] < 0 ? -Math.abs(place) : Math.abs(place); break;
            case 8: n[2] = Math.max((int) n[2], place); n[1] = Math.min((int) n[1], place); break;
            case 9: n[0] = Math.abs(place) > Math.abs((int) n[3]) ? place : 0; break;
            case 10: n[1] = place; n[2] = place; break;
            default: break;
        }
    }

    private static void obeyLong(long[] n, int order) {
        long place = n[0];
        switch (order) {
            case 1: n[0] = Math.max(n[1], Math.min(n[2], place)); break;
            case 2: n[0] = Math.abs(place); break;
            case 6: n[4] = Long.signum(place); break;
            case 7: n[0] = n[4] < 0 ? -Math.abs(place) : Math.abs(place); break;
            case 8: n[2] = Math.max(n[2], place); n[1] = Math.min(n[1], place); break;
            case 9: n[0] = Math.abs(place) > Math.abs(n[3]) ? place : 0; break;
            case 10: n[1] = place; n[2] = place; break;
            default: break;
        }
    }

    private static void obeySingle(long[] n, int order) {
        float place = single(n[0]);
        switch (order) {
            case 1: n[0] = raw(Math.max(single(n[1]), Math.min(single(n[2]), place))); break;
            case 2: n[0] = raw(Math.abs(place)); break;
            case 3: n[0] = raw((float) Math.floor(place)); break;
            case 4: n[0] = raw((float) Math.ceil(place)); break;
            case 5: n[0] = raw((float) Math.rint(place)); break;
            case 6: n[4] = raw(Math.signum(place)); break;
            case 7: n[0] = raw(Math.copySign(place, single(n[4]))); break;
            case 8: n[2] = raw(Math.max(single(n[2]), place)); n[1] = raw(Math.min(single(n[1]), place)); break;
            case 9: n[0] = raw(Math.abs(place) > Math.abs(single(n[3])) ? place : Math.copySign(0f, place)); break;
            case 10: n[1] = raw((float) Math.floor(place)); n[2] = raw((float) Math.ceil(place)); break;
            default: break;
        }
    }

    private static void obeyDouble(long[] n, int order) {
        double place = dbl(n[0]);
        switch (order) {
            case 1: n[0] = raw(Math.max(dbl(n[1]), Math.min(dbl(n[2]), place))); break;
            case 2: n[0] = raw(Math.abs(place)); break;
            case 3: n[0] = raw(Math.floor(place)); break;
            case 4: n[0] = raw(Math.ceil(place)); break;
            case 5: n[0] = raw(Math.rint(place)); break;
            case 6: n[4] = raw(Math.signum(place)); break;
            case 7: n[0] = raw(Math.copySign(place, dbl(n[4]))); break;
            case 8: n[2] = raw(Math.max(dbl(n[2]), place)); n[1] = raw(Math.min(dbl(n[1]), place)); break;
            case 9: n[0] = raw(Math.abs(place) > Math.abs(dbl(n[3])) ? place : Math.copySign(0.0, place)); break;
            case 10: n[1] = raw(Math.floor(place)); n[2] = raw(Math.ceil(place)); break;
            default: break;
        }
    }

    private static long raw(float number) {
        return Float.floatToRawIntBits(number);
    }

    private static long raw(double number) {
        return Double.doubleToRawLongBits(number);
    }
}
