import java.math.BigInteger;

/** Numbers of many bits, of the kinds at which a division, a common divisor or a root goes wrong most easily. */
public final class LongNumberTest {
    private static final BigInteger ONE = BigInteger.ONE;
    private static final int PIECE = 62;

    private final Checks checks = new Checks("LongNumberTest");
    private long drawn = 1;

    public static void main(String[] args) {
        LongNumberTest test = new LongNumberTest();
        test.divisionsWithAQuotientGuessedTooGreat();
        test.everyWidthUpTo800();
        for (int i = 0; i < 400; i++) {
            test.fractionOfTwoPatterns(i);
            test.commonDivisorIsTakenOut(i);
            test.twoFractions(i);
        }
        test.fibonacciNumbers();
        test.checks.end();
    }

    private int draw(int below) {
        drawn = drawn * 6364136223846793005L + 1442695040888963407L;
        return (int) ((drawn >>> 33) % below);
    }

    /** A whole number in sections of zeros, of ones and of anything, which end near the ends of limbs. */
    private BigInteger pattern(int width) {
        BigInteger number = ONE;
        while (number.bitLength() < width) {
            int length = Math.min(width - number.bitLength(), draw(3) == 0 ? 31 * (1 + draw(3)) + draw(3) - 1 : 1 + draw(66));
            BigInteger section = switch (draw(3)) {
                case 0 -> BigInteger.ZERO;
                case 1 -> ONE.shiftLeft(length).subtract(ONE);
                default -> {
                    BigInteger any = BigInteger.ZERO;
                    for (int i = 0; i < length; i++) {
                        any = any.shiftLeft(1).add(BigInteger.valueOf(draw(2)));
                    }
                    yield any;
                }
            };
            number = number.shiftLeft(length).add(section);
        }
        return number;
    }

    /** Makes the whole number of long pieces, and answers its number. */
    private static int make(KerfFractions x, BigInteger number) {
        int pieces = (number.bitLength() + PIECE - 1) / PIECE;
        int made = x.value(number.shiftRight(PIECE * Math.max(pieces - 1, 0)).longValueExact(), 1);
        int power = x.value(1L << PIECE, 1);
        for (int i = pieces - 2; i >= 0; i--) {
            made = x.times(made, power);
            long piece = number.shiftRight(PIECE * i).longValue() & ((1L << PIECE) - 1);
            if (piece != 0) {
                made = x.add(made, x.value(piece, 1));
            }
        }
        return made;
    }

    private static int make(KerfFractions x, BigInteger top, BigInteger bottom) {
        return x.over(make(x, top), make(x, bottom));
    }

    private void dueValue(String what, KerfFractions x, int a, BigInteger top, BigInteger bottom) {
        BigInteger common = top.gcd(bottom);
        checks.due(what, PromiseTest.show(x, a),
            (top.signum() < 0 ? "-" : "") + top.abs().divide(common) + "/" + bottom.divide(common));
    }

    private void divisionsWithAQuotientGuessedTooGreat() {
        // Guessing by the divisor's highest limbs gives 4 here, and the last limb alone says that it is 3.
        for (int lift = 0; lift < 4; lift++) {
            BigInteger divisor = ONE.shiftLeft(90 - lift).add(ONE);
            for (int times = 2; times < 9; times++) {
                BigInteger number = divisor.multiply(BigInteger.valueOf(times)).subtract(ONE);
                KerfFractions x = new KerfFractions();
                int a = make(x, number, divisor);
                dueValue("floor of " + number + " / " + divisor, x, x.round(a, 0, 1), BigInteger.valueOf(times - 1), ONE);
            }
        }
    }

    private void everyWidthUpTo800() {
        for (int width = 1; width <= 800; width += width > 780 ? 1 : 7) {
            KerfFractions x = new KerfFractions();
            BigInteger most = ONE.shiftLeft(width).subtract(ONE);
            int a = make(x, most);
            checks.due("bits of 2^" + width + " - 1", x.bits(a), width + 1);
            dueValue("2^" + width + " - 1", x, a, most, ONE);
            int b = x.add(a, x.value(1, 1));
            checks.due("2^" + width + " is put", b != KerfFractions.NONE, width < 800);
        }
    }

    private void fractionOfTwoPatterns(int run) {
        KerfFractions x = new KerfFractions();
        BigInteger top = pattern(1 + draw(700));
        BigInteger bottom = pattern(1 + draw(800));
        String what = "run " + run + ": " + top + " / " + bottom;
        int a = make(x, top, bottom);
        dueValue(what, x, a, top, bottom);
        dueValue("floor of " + what, x, x.round(a, 0, 1), top.divide(bottom), ONE);
        int bits = draw(201);
        BigInteger s = top.shiftLeft(2 * bits).divide(bottom).sqrt();
        int root = x.root(a, bits);
        dueValue("root by " + bits + " bits of " + what, x, x.end(root, 0), s, ONE.shiftLeft(bits));
        int square = x.times(make(x, pattern(1 + draw(390))), x.value(1, 1));
        square = x.times(square, square);
        int exact = x.root(square, bits);
        checks.due("both ends of an exact root, " + what, x.order(x.end(exact, 0), x.end(exact, 1)), 0);
        checks.due("square of an exact root, " + what, x.order(x.times(x.end(exact, 0), x.end(exact, 1)), square), 0);
    }

    private void commonDivisorIsTakenOut(int run) {
        KerfFractions x = new KerfFractions();
        BigInteger common = pattern(1 + draw(600));
        BigInteger top = common.multiply(pattern(1 + draw(200)));
        BigInteger bottom = common.multiply(pattern(1 + draw(200)));
        int a = make(x, top, bottom);
        dueValue("run " + run + ": " + top + " / " + bottom, x, a, top, bottom);
    }

    private void twoFractions(int run) {
        KerfFractions x = new KerfFractions();
        BigInteger[] n = new BigInteger[4];
        for (int i = 0; i < 4; i++) {
            n[i] = pattern(1 + draw(390));
        }
        int a = make(x, n[0], n[1]);
        int b = x.times(make(x, n[2], n[3]), x.value(draw(2) == 0 ? 1 : -1, 1));
        if (x.sign(b) < 0) {
            n[2] = n[2].negate();
        }
        String what = "run " + run + ": " + n[0] + "/" + n[1] + ", " + n[2] + "/" + n[3];
        BigInteger left = n[0].multiply(n[3]);
        BigInteger right = n[2].multiply(n[1]);
        BigInteger below = n[1].multiply(n[3]);
        dueValue("sum, " + what, x, x.add(a, b), left.add(right), below);
        dueValue("product, " + what, x, x.times(a, b), n[0].multiply(n[2]), below);
        BigInteger side = BigInteger.valueOf(right.signum());
        dueValue("quotient, " + what, x, x.over(a, b), left.multiply(side), right.abs());
        checks.due("order, " + what, x.order(a, b), left.compareTo(right));
    }

    /** Euclid needs the most steps for these, and only the last of them tells that there is no common divisor. */
    private void fibonacciNumbers() {
        BigInteger lesser = ONE;
        BigInteger greater = ONE;
        while (greater.add(lesser).bitLength() <= 800) {
            BigInteger next = greater.add(lesser);
            lesser = greater;
            greater = next;
        }
        KerfFractions x = new KerfFractions();
        int a = make(x, greater, lesser);
        dueValue("two Fibonacci numbers", x, a, greater, lesser);
        checks.due("product beyond 800 bits", x.times(a, a), KerfFractions.NONE);
        dueValue("product of one and its reciprocal", x, x.times(a, x.over(x.value(1, 1), a)), ONE, ONE);
    }
}
