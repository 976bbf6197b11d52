import java.math.BigInteger;

/** Makes numbers of many bits out of pieces that fit into a long, and shows values whole. */
final class Numbers {
    static final BigInteger ONE = BigInteger.ONE;
    private static final int PIECE = 62;

    private Numbers() {
    }

    static BigInteger power(int exponent) {
        return ONE.shiftLeft(exponent);
    }

    /** The greatest number of so many bits. */
    static BigInteger ones(int width) {
        return power(width).subtract(ONE);
    }

    /** Makes the whole number, and answers its number. */
    static int make(KerfFractions x, BigInteger number) {
        BigInteger size = number.abs();
        long side = number.signum() < 0 ? -1 : 1;
        int pieces = Math.max(1, (size.bitLength() + PIECE - 1) / PIECE);
        int made = x.value(side * size.shiftRight(PIECE * (pieces - 1)).longValueExact(), 1);
        int power = pieces > 1 ? x.value(1L << PIECE, 1) : made;
        for (int i = pieces - 2; i >= 0; i--) {
            made = x.times(made, power);
            long piece = size.shiftRight(PIECE * i).longValue() & ((1L << PIECE) - 1);
            if (piece != 0) {
                made = x.add(made, x.value(side * piece, 1));
            }
        }
        return made;
    }

    static int make(KerfFractions x, BigInteger top, BigInteger bottom) {
        int made = make(x, top);
        return bottom.equals(ONE) ? made : x.over(made, make(x, bottom));
    }

    /** A value as its digits tell it, like -3/4. */
    static String show(KerfFractions x, int a) {
        return (x.sign(a) < 0 ? "-" : "") + digits(x, a, 0) + "/" + digits(x, a, 1);
    }

    /** The digits of a value's numerator (part 0) or denominator (1). */
    static String digits(KerfFractions x, int a, int part) {
        StringBuilder text = new StringBuilder();
        for (int i = 0; i < 300; i++) {
            try {
                text.append(x.digit(a, part, i));
            } catch (ArrayIndexOutOfBoundsException e) {
                return text.toString();
            }
        }
        return text + "..";
    }
}
