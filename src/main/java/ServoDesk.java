/**
 * A desk of up to eight axes, each moved by short rows of orders.
 *
 * <p>Every number is held as its bits in a long (those of 32 bits with their sign carried up), and floating
 * numbers are worked on as whole ones: so no answer can lose the side of a 0, and none can be no number.
 */
public final class ServoDesk {
    /** There is none. */
    public static final int NONE = -1;

    private static final int MOST_AXES = 8;
    private static final int MOST_ORDERS = 8;
    private static final int BITS_OF_ORDER = 4;
    private static final int ORDER_MASK = 15;
    private static final int NOT_ORDERED = -2;
    private static final Kind[] KINDS = Kind.values();

    private final Axis[] axes;
    private int count;

    /** A desk without axes. */
    public ServoDesk() {
        axes = new Axis[MOST_AXES];
        count = 0;
    }

    /** Makes an axis of a kind (0 WHOLE, 1 LONG, 2 SINGLE, 3 DOUBLE): its number, or NONE. */
    public int axis(int kind) {
        if (kind < 0 || kind >= KINDS.length || count >= axes.length) {
            return NONE;
        }
        axes[count] = new Axis(KINDS[kind]);
        count++;
        return count - 1;
    }

    /** Sets a number of an axis (0 PLACE, 1 LOW, 2 HIGH, 3 BAND, 4 WAY) by its bits: whether that was done. */
    public boolean set(int axis, int what, long bits) {
        Axis chosen = find(axis);
        return chosen != null && chosen.put(what, bits);
    }

    /** The bits of a number of an axis, 0 for none such. */
    public long bits(int axis, int what) {
        Axis chosen = find(axis);
        return chosen == null ? 0 : chosen.number(what);
    }

    /** Does a row of orders: how many they were, or NONE if nothing was done. */
    public int orders(int axis, int row) {
        Axis chosen = find(axis);
        int length = lengthOf(row);
        if (chosen == null || length == NONE) {
            return NONE;
        }
        for (int at = 0; at < length; at++) {
            chosen.obey(orderAt(row, at));
        }
        return length;
    }

    /** Moves an axis to another's PLACE, made of its own kind: whether there are both. */
    public boolean follow(int axis, int other) {
        Axis follower = find(axis);
        Axis leader = find(other);
        if (follower == null || leader == null) {
            return false;
        }
        follower.moveTo(leader);
        return true;
    }

    /** -1, 0 or 1 as an axis's PLACE is less than, the same as or greater than another's; -2 if they can't be ordered. */
    public int order(int axis, int other) {
        Axis first = find(axis);
        Axis second = find(other);
        if (first == null || second == null || first.kind != second.kind) {
            return NOT_ORDERED;
        }
        return first.kind.compared(first.place, second.place);
    }

    private Axis find(int number) {
        return number >= 0 && number < count && number < axes.length ? axes[number] : null;
    }

    private static int orderAt(int row, int at) {
        return (row >>> (at * BITS_OF_ORDER)) & ORDER_MASK;
    }

    /** How many orders a row has, or NONE if one of them is no order: known before the first is done. */
    private static int lengthOf(int row) {
        for (int at = 0; at < MOST_ORDERS; at++) {
            int next = orderAt(row, at);
            if (next == 0) {
                return at;
            }
            if (next > Axis.RISE) {
                return NONE;
            }
        }
        return MOST_ORDERS;
    }

    /** One axis: its kind and the bits of its five numbers. */
    private static final class Axis {
        private static final int PLACE = 0;
        private static final int LOW = 1;
        private static final int HIGH = 2;
        private static final int BAND = 3;
        private static final int WAY = 4;

        private static final int HOLD = 1;
        private static final int SIZE = 2;
        private static final int DOWN = 3;
        private static final int UP = 4;
        private static final int NEAR = 5;
        private static final int LOOK = 6;
        private static final int TURN = 7;
        private static final int WIDEN = 8;
        private static final int REST = 9;
        private static final int GRID = 10;
        private static final int SWAP = 11;
        private static final int FALL = 12;
        private static final int RISE = 13;

        private final Kind kind;
        private long place;
        private long low;
        private long high;
        private long band;
        private long way;

        private Axis(Kind kind) {
            this.kind = kind;
            place = 0;
            low = kind.least();
            high = kind.greatest();
            band = 0;
            way = 0;
        }

        private boolean put(int what, long given) {
            long fitted = kind.fitted(given);
            if (!kind.isNumber(fitted)) {
                return false;
            }
            switch (what) {
                case PLACE: place = fitted; return true;
                case LOW: low = fitted; return true;
                case HIGH: high = fitted; return true;
                case BAND: band = fitted; return true;
                case WAY: way = fitted; return true;
                default: return false;
            }
        }

        private long number(int what) {
            switch (what) {
                case PLACE: return place;
                case LOW: return low;
                case HIGH: return high;
                case BAND: return band;
                case WAY: return way;
                default: return 0;
            }
        }

        private void moveTo(Axis leader) {
            place = kind.made(leader.kind, leader.place);
        }

        private void obey(int order) {
            switch (order) {
                case HOLD: place = kind.greater(low, kind.lesser(high, place)); break;
                case SIZE: place = kind.sized(place); break;
                case DOWN: place = kind.wholeBelow(place); break;
                case UP: place = kind.wholeAbove(place); break;
                case NEAR: place = kind.wholeNearest(place); break;
                case LOOK: look(); break;
                case TURN: place = kind.turned(place, way); break;
                case WIDEN: widen(); break;
                case REST: rest(); break;
                case GRID: grid(); break;
                case SWAP: swap(); break;
                case FALL: place = low; break;
                case RISE: place = high; break;
                default: break;
            }
        }

        private void look() {
            way = kind.sized(place) == 0 ? place : kind.turned(kind.one(), place);
        }

        private void widen() {
            high = kind.greater(high, place);
            low = kind.lesser(low, place);
        }

        private void rest() {
            // Sizes have no sign (or are the one least whole number), so their bits are in the numbers' own order.
            if (kind.sized(place) <= kind.sized(band)) {
                place = kind.zeroBeside(place);
            }
        }

        private void grid() {
            low = kind.wholeBelow(place);
            high = kind.wholeAbove(place);
        }

        private void swap() {
            long kept = low;
            low = high;
            high = kept;
        }
    }

    /**
     * What each kind makes of bits. A floating number's SIZE is its bits without the sign: sizes are in the order
     * of the numbers, and adding 1 to a size goes to the next number, over the edge of an exponent too.
     */
    private enum Kind {
        WHOLE(32, 0, 0),
        LONG(64, 0, 0),
        SINGLE(32, 23, 127),
        DOUBLE(64, 52, 1023);

        private static final int BITS_OF_LONG = 64;
        /** The last shift that Java does not take modulo 64, and the first exponent that is beyond every long. */
        private static final int LAST_BIT = 63;

        private final int unused;
        private final boolean floating;
        private final int fraction;
        private final int bias;
        /** The sign's bit and all above it; of whole kinds this is the least number itself. */
        private final long sign;

        Kind(int width, int fraction, int bias) {
            this.unused = BITS_OF_LONG - width;
            this.floating = fraction > 0;
            this.fraction = fraction;
            this.bias = bias;
            this.sign = -1L << (width - 1);
        }

        private long infinity() {
            return (2L * bias + 1) << fraction;
        }

        private long one() {
            return floating ? (long) bias << fraction : 1;
        }

        private long least() {
            return floating ? infinity() | sign : sign;
        }

        private long greatest() {
            return floating ? infinity() : ~sign;
        }

        /** The lowest bits that the kind has, the sign carried up. */
        private long fitted(long given) {
            return given << unused >> unused;
        }

        private boolean isNumber(long number) {
            return !floating || sized(number) <= infinity();
        }

        private int compared(long first, long second) {
            return Long.compare(rank(first), rank(second));
        }

        private long greater(long first, long second) {
            return compared(first, second) >= 0 ? first : second;
        }

        private long lesser(long first, long second) {
            return compared(first, second) <= 0 ? first : second;
        }

        /** A long in the numbers' order: sizes below 0 count downwards, so that -0 comes just before 0. */
        private long rank(long number) {
            return floating && number < 0 ? number ^ ~sign : number;
        }

        private long sized(long number) {
            return floating ? number & ~sign : fitted(Math.abs(number));
        }

        private long turned(long number, long way) {
            long size = sized(number);
            if (way >= 0) {
                return size;
            }
            return floating ? size | sign : fitted(-size);
        }

        private long zeroBeside(long number) {
            return turned(0, number);
        }

        private long wholeBelow(long number) {
            if (!floating) {
                return number;
            }
            long size = sized(number);
            return turned(number < 0 ? outward(size) : inward(size), number);
        }

        private long wholeAbove(long number) {
            if (!floating) {
                return number;
            }
            long size = sized(number);
            return turned(number < 0 ? inward(size) : outward(size), number);
        }

        private long wholeNearest(long number) {
            return floating ? turned(nearest(sized(number)), number) : number;
        }

        /** How many of a size's bits stand below the unit, for a size of 1 or more: none if it is endless. */
        private int bitsBelowUnit(long size) {
            return Math.max(0, bias + fraction - (int) (size >>> fraction));
        }

        private long inward(long size) {
            if (size < one()) {
                return 0;
            }
            int below = bitsBelowUnit(size);
            return size >>> below << below;
        }

        private long outward(long size) {
            if (size < one()) {
                return size == 0 ? 0 : one();
            }
            long rest = (1L << bitsBelowUnit(size)) - 1;
            return (size + rest) & ~rest;
        }

        private long nearest(long size) {
            if (size < one()) {
                long half = one() - (1L << fraction);
                return size > half ? one() : 0;
            }
            // From 1 up to 2 the unit's bit is the exponent's lowest one: the bias is odd, and so that bit is 1 as it must be.
            int below = bitsBelowUnit(size);
            return scaledDown(size, below) << below;
        }

        /** A number of another kind, made of this one. */
        private long made(Kind from, long number) {
            if (!from.floating) {
                return floating ? turned(sizeOf(Math.abs(number), 0), number) : fitted(number);
            }
            if (!floating) {
                return Math.max(least(), Math.min(greatest(), from.towardsZero(number)));
            }
            long size = from.sized(number);
            boolean endless = size == from.infinity();
            return turned(endless ? infinity() : sizeOf(from.significand(size), from.scale(size)), number);
        }

        /** A floating number as a long; what is beyond a long's range becomes its end. */
        private long towardsZero(long number) {
            long size = sized(number);
            int scale = scale(size);
            if (scale + fraction >= LAST_BIT) {
                return number < 0 ? LONG.least() : LONG.greatest();
            }
            long significand = significand(size);
            long part = scale >= 0 ? significand << scale : significand >>> Math.min(LAST_BIT, -scale);
            return number < 0 ? -part : part;
        }

        /** A size is its significand times 2 to the power of its scale. */
        private long significand(long size) {
            long unit = 1L << fraction;
            return size < unit ? size : size & (unit - 1) | unit;
        }

        private int scale(long size) {
            return Math.max(1, (int) (size >>> fraction)) - bias - fraction;
        }

        /** The size nearest to a significand (64 bits without a sign) times 2 to the power of a scale. */
        private long sizeOf(long significand, int scale) {
            if (significand == 0) {
                return 0;
            }
            int exponent = LAST_BIT - Long.numberOfLeadingZeros(significand) + scale;
            if (exponent > bias) {
                return infinity();
            }
            int bounded = Math.max(exponent, 1 - bias);
            long kept = scaledDown(significand, bounded - fraction - scale);
            // Kept has the unit's own bit (but in the smallest numbers), which adds the 1 that the exponent lacks here.
            return ((long) (bounded + bias - 1) << fraction) + kept;
        }

        /** Bits without a sign, divided by 2 to the power of drop: the nearest whole number, of two the even one. */
        private static long scaledDown(long number, int drop) {
            if (drop <= 0) {
                return number << Math.min(LAST_BIT, -drop);
            }
            if (drop > LAST_BIT) {
                return 0;
            }
            long kept = number >>> drop;
            long rest = number & ((1L << drop) - 1);
            long half = 1L << (drop - 1);
            boolean up = rest > half || rest == half && (kept & 1) != 0;
            return up ? kept + 1 : kept;
        }
    }
}
