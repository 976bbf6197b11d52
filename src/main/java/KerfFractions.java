/**
 * Lengths, kerfs, areas and shares as exact fractions: sums, products, quotients, order, roots
 * enclosed, roundings, units old and new, shares that sum to the whole, digits.
 */
public final class KerfFractions {
    public static final int NONE = -1;

    private static final int VALUES = 150;
    private static final int MOST_VALUE_BITS = 800;
    private static final int ROOTS = 40;
    private static final int ENDS = 2;
    private static final int MOST_ROOT_BITS = 200;
    private static final int WEIGHTS = 32;
    private static final long MOST_WEIGHT = 1000000000L;
    private static final long MOST_WHOLE = 1000000000L;

    private static final int DOWN = 0;
    private static final int UP = 1;
    private static final int NEAREST_OR_GREATER = 2;
    private static final int NEAREST_OR_EVEN = 3;

    private static final int TOP = 0;
    private static final int BOTTOM = 1;

    // 0.01 mm, mm, m, inch, foot and line, all in 1/300 mm: the line is no whole number of 0.01 mm.
    private static final long[] UNIT_LENGTHS = {3L, 300L, 300000L, 7620L, 91440L, 635L};

    // 800 bits have at most 241 decimal digits, which is 27 groups of nine.
    private static final int GROUP_DIGITS = 9;
    private static final long GROUP = 1000000000L;
    private static final int MOST_GROUPS = 27;

    // Newton's steps near a root double the right bits: some twelve do for 1200 bits.
    private static final int MOST_NEWTON_STEPS = 1000;

    // Null where none was put yet: there the value is 0.
    private final Fraction[] values = new Fraction[VALUES];
    private final Fraction zero = new Fraction(0, Whole.of(0), Whole.of(1));
    private int valuesPut;
    private final int[] ends = new int[ROOTS * ENDS];
    private int rootsUsed;
    private final long[] weights = new long[WEIGHTS];
    private int weightsTold;

    private final Whole one = Whole.of(1);

    // Rows that every call uses anew: nothing of a call is kept in them.
    private final Whole newTop = new Whole(Whole.ROOM);
    private final Whole newBottom = new Whole(Whole.ROOM);
    private final Whole left = new Whole(Whole.ROOM);
    private final Whole right = new Whole(Whole.ROOM);
    private final int[] digits = new int[MOST_GROUPS * GROUP_DIGITS];
    private final Divider divider = new Divider();
    private final Measure measure = new Measure();

    public KerfFractions() {
    }

    public int value(long above, long below) throws ArithmeticException {
        if (below == 0) {
            throw new ArithmeticException("a division by 0");
        }
        newTop.setMagnitude(above);
        newBottom.setMagnitude(below);
        return putNew((above < 0) == (below < 0) ? 1 : -1);
    }

    public int add(int a, int b) throws ArrayIndexOutOfBoundsException {
        Fraction first = fractionAt(a);
        Fraction second = fractionAt(b);
        left.setProduct(first.top, second.bottom);
        right.setProduct(second.top, first.bottom);
        newBottom.setProduct(first.bottom, second.bottom);
        if (first.side * second.side >= 0) {
            newTop.setSum(left, right);
            return putNew(first.side != 0 ? first.side : second.side);
        }
        if (left.compareWith(right) >= 0) {
            newTop.setDifference(left, right);
            return putNew(first.side);
        }
        newTop.setDifference(right, left);
        return putNew(second.side);
    }

    public int times(int a, int b) throws ArrayIndexOutOfBoundsException {
        Fraction first = fractionAt(a);
        Fraction second = fractionAt(b);
        newTop.setProduct(first.top, second.top);
        newBottom.setProduct(first.bottom, second.bottom);
        return putNew(first.side * second.side);
    }

    public int over(int a, int b) throws ArrayIndexOutOfBoundsException, ArithmeticException {
        Fraction first = fractionAt(a);
        Fraction second = fractionAt(b);
        if (second.side == 0) {
            throw new ArithmeticException("a division by 0");
        }
        newTop.setProduct(first.top, second.bottom);
        newBottom.setProduct(first.bottom, second.top);
        return putNew(first.side * second.side);
    }

    public int order(int a, int b) throws ArrayIndexOutOfBoundsException {
        Fraction first = fractionAt(a);
        Fraction second = fractionAt(b);
        if (first.side != second.side) {
            return first.side < second.side ? -1 : 1;
        }
        left.setProduct(first.top, second.bottom);
        right.setProduct(second.top, first.bottom);
        return first.side * left.compareWith(right);
    }

    public int root(int a, int bits) throws ArrayIndexOutOfBoundsException, IllegalArgumentException {
        Fraction square = fractionAt(a);
        if (square.side < 0) {
            throw new IllegalArgumentException("a root of a value below 0");
        }
        if (bits < 0 || bits > MOST_ROOT_BITS) {
            throw new IllegalArgumentException("no such number of bits");
        }
        if (rootsUsed >= ROOTS || valuesPut + ENDS > VALUES) {
            return NONE;
        }
        boolean exact = leaveRootInLeft(square, bits);
        setNewToLeftOverPower(bits);
        setEnd(rootsUsed, 0, putNew(1));
        if (!exact) {
            left.setSum(left, one);
        }
        setNewToLeftOverPower(bits);
        setEnd(rootsUsed, 1, putNew(1));
        return rootsUsed++;
    }

    public int end(int root, int which) throws ArrayIndexOutOfBoundsException {
        if (root < 0 || root >= ROOTS) {
            throw new ArrayIndexOutOfBoundsException("no such root");
        }
        if (which < 0 || which >= ENDS) {
            throw new ArrayIndexOutOfBoundsException("no such end");
        }
        int at = root * ENDS + which;
        return at >= 0 && at < ends.length ? ends[at] : 0;
    }

    public int round(int a, int rule, long unit) throws ArrayIndexOutOfBoundsException, IllegalArgumentException {
        Fraction exact = fractionAt(a);
        if (rule < DOWN || rule > NEAREST_OR_EVEN) {
            throw new IllegalArgumentException("no such rule");
        }
        if (unit < 1) {
            throw new IllegalArgumentException("a unit below 1");
        }
        newBottom.setMagnitude(unit);
        right.setProduct(exact.bottom, newBottom);
        divider.divide(exact.top, right);
        left.become(divider.quotient);
        if (growsWhenRounded(exact.side, rule)) {
            left.setSum(left, one);
        }
        newTop.setProduct(left, newBottom);
        newBottom.become(one);
        return putNew(exact.side);
    }

    public int turn(int a, int from, int to) throws ArrayIndexOutOfBoundsException {
        Fraction length = fractionAt(a);
        left.setMagnitude(unitLength(from));
        right.setMagnitude(unitLength(to));
        newTop.setProduct(length.top, left);
        newBottom.setProduct(length.bottom, right);
        return putNew(length.side);
    }

    public boolean weight(long w) {
        if (weightsTold < 0 || weightsTold >= weights.length || w < 0 || w > MOST_WEIGHT) {
            return false;
        }
        weights[weightsTold] = w;
        weightsTold++;
        return true;
    }

    public void clearWeights() {
        for (int i = 0; i < weights.length; i++) {
            weights[i] = 0;
        }
        weightsTold = 0;
    }

    public long share(long whole, int k) throws ArrayIndexOutOfBoundsException, IllegalArgumentException, ArithmeticException {
        if (k < 0 || k >= weights.length) {
            throw new ArrayIndexOutOfBoundsException("no such weight");
        }
        if (whole < 0 || whole > MOST_WHOLE) {
            throw new IllegalArgumentException("no such whole");
        }
        long all = sumOfWeights();
        if (all <= 0) {
            throw new ArithmeticException("all weights are 0");
        }
        long product = whole * weights[k];
        long over = leftOver(whole, all);
        return product / all + (countServedBefore(whole, all, k) < over ? 1 : 0);
    }

    public int digit(int a, int part, int i) throws ArrayIndexOutOfBoundsException, IllegalArgumentException {
        Fraction shown = fractionAt(a);
        if (part != TOP && part != BOTTOM) {
            throw new IllegalArgumentException("no such part");
        }
        left.become(part == TOP ? shown.top : shown.bottom);
        int count = writeDigitsOfLeft();
        if (i < 0 || i >= count) {
            throw new ArrayIndexOutOfBoundsException("no such digit");
        }
        return digitFromLowest(count - 1 - i);
    }

    public int bits(int a) throws ArrayIndexOutOfBoundsException {
        Fraction counted = fractionAt(a);
        return counted.side == 0 ? 0 : counted.top.width() + counted.bottom.width();
    }

    public int sign(int a) throws ArrayIndexOutOfBoundsException {
        return fractionAt(a).side;
    }

    private Fraction fractionAt(int number) throws ArrayIndexOutOfBoundsException {
        if (number < 0 || number >= values.length) {
            throw new ArrayIndexOutOfBoundsException("no such value");
        }
        Fraction put = values[number];
        return put != null ? put : zero;
    }

    private static long unitLength(int unit) throws ArrayIndexOutOfBoundsException {
        if (unit < 0 || unit >= UNIT_LENGTHS.length) {
            throw new ArrayIndexOutOfBoundsException("no such unit");
        }
        return UNIT_LENGTHS[unit];
    }

    /** Puts newTop / newBottom, on this side of 0, at the next number; newBottom is above 0. */
    private int putNew(int side) {
        if (valuesPut < 0 || valuesPut >= values.length) {
            return NONE;
        }
        Whole common = measure.commonDivisor(newTop, newBottom);
        if (common.compareWith(one) > 0) {
            divider.divide(newTop, common);
            newTop.become(divider.quotient);
            divider.divide(newBottom, common);
            newBottom.become(divider.quotient);
        }
        if (newTop.width() > MOST_VALUE_BITS || newBottom.width() > MOST_VALUE_BITS) {
            return NONE;
        }
        values[valuesPut] = new Fraction(newTop.isZero() ? 0 : side, newTop, newBottom);
        return valuesPut++;
    }

    private void setNewToLeftOverPower(int bits) {
        newTop.become(left);
        newBottom.setShifted(one, bits);
    }

    private void setEnd(int root, int which, int number) {
        int at = root * ENDS + which;
        if (at >= 0 && at < ends.length) {
            ends[at] = number;
        }
    }

    /** Leaves FLOOR(the root of square * 2^bits) in left; whether this is exactly that root. */
    private boolean leaveRootInLeft(Fraction square, int bits) {
        newBottom.setShifted(square.top, 2 * bits);
        divider.divide(newBottom, square.bottom);
        right.become(divider.quotient);
        leaveFloorOfRootOfRightInLeft();
        newTop.setProduct(left, left);
        right.setProduct(newTop, square.bottom);
        return right.compareWith(newBottom) == 0;
    }

    private void leaveFloorOfRootOfRightInLeft() {
        // Newton's steps fall towards the floor only from a start that is not below the root.
        left.setShifted(one, (right.width() + 1) / 2);
        for (int step = 0; step < MOST_NEWTON_STEPS; step++) {
            divider.divide(right, left);
            newTop.setSum(left, divider.quotient);
            newTop.lower(1);
            if (newTop.compareWith(left) >= 0) {
                return;
            }
            left.become(newTop);
        }
    }

    /** Whether the times of a unit grow by one in size; right is the divisor, divider.rest the rest. */
    private boolean growsWhenRounded(int side, int rule) {
        if (divider.rest.isZero()) {
            return false;
        }
        if (rule == DOWN) {
            return side < 0;
        }
        if (rule == UP) {
            return side > 0;
        }
        newTop.setSum(divider.rest, divider.rest);
        int half = newTop.compareWith(right);
        if (half != 0) {
            return half > 0;
        }
        return rule == NEAREST_OR_GREATER ? side > 0 : left.isOdd();
    }

    private long sumOfWeights() {
        long sum = 0;
        for (long weight : weights) {
            sum += weight;
        }
        return sum;
    }

    /** What the whole parts of all shares leave; all is above 0. */
    private long leftOver(long whole, long all) {
        long over = whole;
        for (long weight : weights) {
            over -= all > 0 ? whole * weight / all : 0;
        }
        return over;
    }

    /** How many weights get one of what is left before weight k does. */
    private int countServedBefore(long whole, long all, int k) {
        if (all <= 0 || k < 0 || k >= weights.length) {
            return 0;
        }
        long rest = whole * weights[k] % all;
        int before = 0;
        for (int i = 0; i < weights.length; i++) {
            long other = whole * weights[i] % all;
            if (other > rest || other == rest && i < k) {
                before++;
            }
        }
        return before;
    }

    /** Writes the decimal digits of left, the lowest first, and answers how many there are. */
    private int writeDigitsOfLeft() {
        int count = 0;
        for (int group = 0; group < MOST_GROUPS && !left.isZero(); group++) {
            long rest = left.takeQuotient(GROUP);
            for (int i = 0; i < GROUP_DIGITS; i++) {
                setDigitFromLowest(count, (int) (rest % 10));
                rest /= 10;
                count++;
            }
        }
        while (count > 0 && digitFromLowest(count - 1) == 0) {
            count--;
        }
        if (count == 0) {
            setDigitFromLowest(0, 0);
            return 1;
        }
        return count;
    }

    private int digitFromLowest(int at) {
        return at >= 0 && at < digits.length ? digits[at] : 0;
    }

    private void setDigitFromLowest(int at, int digit) {
        if (at >= 0 && at < digits.length) {
            digits[at] = digit;
        }
    }

    /** A value that was put: without a common divisor, side -1, 0 or 1 as it is below, at or above 0. */
    private static final class Fraction {
        private final int side;
        private final Whole top;
        private final Whole bottom;

        Fraction(int side, Whole top, Whole bottom) {
            this.side = side;
            this.top = Whole.copyOf(top);
            this.bottom = Whole.copyOf(bottom);
        }
    }

    /**
     * A whole number of 0 or more, in limbs of 31 bits, the lowest first. So short a limb keeps
     * the product of two, and the sum of two such products, within a long.
     */
    private static final class Whole {
        private static final int LIMB_BITS = 31;
        private static final long LIMB_MASK = (1L << LIMB_BITS) - 1;
        // The longest number is a sum of 1601 bits, in a division up to 30 bits longer.
        private static final int ROOM = 56;
        private static final int LONG_LIMBS = 3;

        private final long[] limbs;
        // The limbs in use; what stands in those above is not read. The highest in use is not 0.
        private int size;

        Whole(int room) {
            limbs = new long[Math.max(room, 0)];
        }

        static Whole of(long number) {
            Whole made = new Whole(LONG_LIMBS);
            made.setMagnitude(number);
            return made;
        }

        static Whole copyOf(Whole other) {
            Whole copy = new Whole(other.size);
            copy.become(other);
            return copy;
        }

        long limb(int at) {
            return at >= 0 && at < size && at < limbs.length ? limbs[at] : 0;
        }

        void setLimb(int at, long limb) {
            if (at >= 0 && at < limbs.length) {
                limbs[at] = limb;
            }
        }

        /** Sets the size behind the highest limb below used that is not 0. */
        void settle(int used) {
            int highest = Math.min(used, limbs.length);
            while (highest > 0 && highest <= limbs.length && limbs[highest - 1] == 0) {
                highest--;
            }
            size = Math.max(highest, 0);
        }

        boolean isZero() {
            return size == 0;
        }

        boolean isOdd() {
            return (limb(0) & 1) != 0;
        }

        /** How many bits it has; 0 has none. */
        int width() {
            return size == 0 ? 0 : LIMB_BITS * (size - 1) + 64 - Long.numberOfLeadingZeros(limb(size - 1));
        }

        /** The bits from this one on, as many as two limbs have. */
        long window(int from) {
            int at = from / LIMB_BITS;
            int part = from % LIMB_BITS;
            long bits = limb(at) >> part | limb(at + 1) << (LIMB_BITS - part) | limb(at + 2) << (2 * LIMB_BITS - part);
            return bits & ((1L << (2 * LIMB_BITS)) - 1);
        }

        int compareWith(Whole other) {
            if (size != other.size) {
                return size < other.size ? -1 : 1;
            }
            for (int i = size - 1; i >= 0; i--) {
                if (limb(i) != other.limb(i)) {
                    return limb(i) < other.limb(i) ? -1 : 1;
                }
            }
            return 0;
        }

        void become(Whole other) {
            int used = other.size;
            for (int i = 0; i < used; i++) {
                setLimb(i, other.limb(i));
            }
            settle(used);
        }

        void setMagnitude(long number) {
            // The least long stays as it is here, and is 2^63 when its bits are read without a sign.
            long rest = number < 0 ? -number : number;
            for (int i = 0; i < LONG_LIMBS; i++) {
                setLimb(i, rest & LIMB_MASK);
                rest >>>= LIMB_BITS;
            }
            settle(LONG_LIMBS);
        }

        void setSum(Whole x, Whole y) {
            int used = Math.max(x.size, y.size) + 1;
            long carry = 0;
            for (int i = 0; i < used; i++) {
                carry += x.limb(i) + y.limb(i);
                setLimb(i, carry & LIMB_MASK);
                carry >>= LIMB_BITS;
            }
            settle(used);
        }

        /** x - y, where x is not less. */
        void setDifference(Whole x, Whole y) {
            int used = x.size;
            long carry = 0;
            for (int i = 0; i < used; i++) {
                carry += x.limb(i) - y.limb(i);
                setLimb(i, carry & LIMB_MASK);
                carry >>= LIMB_BITS;
            }
            settle(used);
        }

        /** x * y, where neither is this one. */
        void setProduct(Whole x, Whole y) {
            int used = x.size + y.size;
            for (int i = 0; i < used; i++) {
                setLimb(i, 0);
            }
            size = used;
            for (int i = 0; i < x.size; i++) {
                long factor = x.limb(i);
                long carry = 0;
                for (int j = 0; j < y.size; j++) {
                    carry += factor * y.limb(j) + limb(i + j);
                    setLimb(i + j, carry & LIMB_MASK);
                    carry >>= LIMB_BITS;
                }
                setLimb(i + y.size, carry);
            }
            settle(used);
        }

        /** x * 2^by, by not below 0. */
        void setShifted(Whole x, int by) {
            int limbsBy = by / LIMB_BITS;
            int part = by % LIMB_BITS;
            int used = x.size + limbsBy + 1;
            for (int i = used - 1; i >= 0; i--) {
                long bits = x.limb(i - limbsBy) << part | x.limb(i - limbsBy - 1) >> (LIMB_BITS - part);
                setLimb(i, bits & LIMB_MASK);
            }
            settle(used);
        }

        /** Divides by 2^by, leaving the rest out; by is less than a limb's bits. */
        void lower(int by) {
            for (int i = 0; i < size; i++) {
                long bits = limb(i) >> by | limb(i + 1) << (LIMB_BITS - by);
                setLimb(i, bits & LIMB_MASK);
            }
            settle(size);
        }

        /** Becomes the quotient by a number of one limb, and answers the rest. */
        long takeQuotient(long divisor) {
            if (divisor <= 0) {
                return 0;
            }
            long rest = 0;
            for (int i = size - 1; i >= 0; i--) {
                rest = rest << LIMB_BITS | limb(i);
                setLimb(i, rest / divisor);
                rest %= divisor;
            }
            settle(size);
            return rest;
        }
    }

    /** Divides whole numbers as by hand, limb by limb. */
    private static final class Divider {
        private final Whole quotient = new Whole(Whole.ROOM);
        private final Whole rest = new Whole(Whole.ROOM);
        private final Whole divisor = new Whole(Whole.ROOM);

        /** Leaves quotient and rest of x by y; by 0 the quotient is 0. */
        void divide(Whole x, Whole y) {
            if (y.size == 1) {
                quotient.become(x);
                rest.setMagnitude(quotient.takeQuotient(y.limb(0)));
                return;
            }
            if (y.isZero() || x.compareWith(y) < 0) {
                quotient.settle(0);
                rest.become(x);
                return;
            }
            // With the divisor's highest bit at the top of its limb a guessed limb is at most two too great.
            int lift = Whole.LIMB_BITS * y.size - y.width();
            divisor.setShifted(y, lift);
            rest.setShifted(x, lift);
            int highest = rest.size - divisor.size;
            for (int at = highest; at >= 0; at--) {
                quotient.setLimb(at, takeOut(at));
            }
            quotient.settle(highest + 1);
            rest.lower(lift);
        }

        /** Takes the divisor out of the rest, from this limb on, as often as it goes; how often that was. */
        private long takeOut(int at) {
            int size = divisor.size;
            long high = divisor.limb(size - 1);
            if (high <= 0) {
                return 0;
            }
            long two = rest.limb(at + size) << Whole.LIMB_BITS | rest.limb(at + size - 1);
            long often = two / high;
            long over = two % high;
            for (int i = 0; i < 2 && over <= Whole.LIMB_MASK && isTooOften(often, over, at); i++) {
                often--;
                over += high;
            }
            if (changeRest(at, -often) < 0) {
                often--;
                changeRest(at, 1);
            }
            rest.setLimb(at + size, 0);
            return often;
        }

        private boolean isTooOften(long often, long over, int at) {
            int size = divisor.size;
            return often > Whole.LIMB_MASK
                || often * divisor.limb(size - 2) > (over << Whole.LIMB_BITS | rest.limb(at + size - 2));
        }

        /** Adds so many divisors to the rest, from this limb on; what its limb above them would become. */
        private long changeRest(int at, long often) {
            long carry = 0;
            for (int i = 0; i < divisor.size; i++) {
                carry += rest.limb(at + i) + often * divisor.limb(i);
                rest.setLimb(at + i, carry & Whole.LIMB_MASK);
                carry >>= Whole.LIMB_BITS;
            }
            return carry + rest.limb(at + divisor.size);
        }
    }

    /** Greatest common divisors, after Euclid, with many of his steps done at once as Lehmer does them. */
    private static final class Measure {
        private static final int WINDOW_BITS = 2 * Whole.LIMB_BITS;
        // Euclid takes at most some 1.45 steps for a bit.
        private static final int MOST_STEPS_IN_WINDOW = 100;
        private static final int MOST_STEPS = 10000;

        private final Divider divider = new Divider();
        private final Whole x = new Whole(Whole.ROOM);
        private final Whole y = new Whole(Whole.ROOM);
        // How often the old x and the old y go into the new x, and into the new y.
        private long oldXInX;
        private long oldYInX;
        private long oldXInY;
        private long oldYInY;

        /** The greatest common divisor, in a row that the next call uses again. */
        Whole commonDivisor(Whole a, Whole b) {
            boolean ordered = a.compareWith(b) >= 0;
            x.become(ordered ? a : b);
            y.become(ordered ? b : a);
            for (int step = 0; step < MOST_STEPS && !y.isZero(); step++) {
                if (x.width() <= WINDOW_BITS) {
                    finishInLongs();
                } else if (foreseeSteps()) {
                    mix();
                } else {
                    divider.divide(x, y);
                    x.become(y);
                    y.become(divider.rest);
                }
            }
            return x;
        }

        private void finishInLongs() {
            long greater = x.window(0);
            long lesser = y.window(0);
            for (int step = 0; step < MOST_STEPS_IN_WINDOW && lesser > 0; step++) {
                long rest = greater % lesser;
                greater = lesser;
                lesser = rest;
            }
            x.setMagnitude(greater);
            y.setMagnitude(lesser);
        }

        /**
         * Does Euclid's steps on the highest bits alone, as long as these are sure to have the
         * whole numbers' quotients; whether there was one. (Knuth, 4.5.2, algorithm L.)
         */
        private boolean foreseeSteps() {
            int from = Math.max(x.width() - WINDOW_BITS, 0);
            long greater = x.window(from);
            long lesser = y.window(from);
            oldXInX = 1;
            oldYInX = 0;
            oldXInY = 0;
            oldYInY = 1;
            for (int step = 0; step < MOST_STEPS_IN_WINDOW; step++) {
                if (lesser + oldXInY <= 0 || lesser + oldYInY <= 0) {
                    break;
                }
                long often = (greater + oldXInX) / (lesser + oldXInY);
                if (often > Whole.LIMB_MASK || often != (greater + oldYInX) / (lesser + oldYInY)) {
                    break;
                }
                long nextX = oldXInX - often * oldXInY;
                long nextY = oldYInX - often * oldYInY;
                if (Math.max(Math.abs(nextX), Math.abs(nextY)) > Whole.LIMB_MASK) {
                    break;
                }
                oldXInX = oldXInY;
                oldYInX = oldYInY;
                oldXInY = nextX;
                oldYInY = nextY;
                long rest = greater - often * lesser;
                greater = lesser;
                lesser = rest;
            }
            return oldYInX != 0;
        }

        /** Does on x and y the steps that were foreseen. */
        private void mix() {
            int used = x.size;
            long newX = 0;
            long newY = 0;
            for (int i = 0; i < used; i++) {
                long oldX = x.limb(i);
                long oldY = y.limb(i);
                newX += oldXInX * oldX + oldYInX * oldY;
                newY += oldXInY * oldX + oldYInY * oldY;
                x.setLimb(i, newX & Whole.LIMB_MASK);
                y.setLimb(i, newY & Whole.LIMB_MASK);
                newX >>= Whole.LIMB_BITS;
                newY >>= Whole.LIMB_BITS;
            }
            x.settle(used);
            y.settle(used);
        }
    }
}
