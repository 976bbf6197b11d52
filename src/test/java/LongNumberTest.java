import java.math.BigInteger;

/** Numbers of many bits, of the kinds at which a division, a common divisor or a root goes wrong most easily. */
public final class LongNumberTest {
    private static final BigInteger ONE = Numbers.ONE;

    private final Checks checks = new Checks("LongNumberTest");
    private long drawn = 1;

    public static void main(String[] args) {
        LongNumberTest test = new LongNumberTest();
        test.divisionsWithAQuotientGuessedTooGreat();
        test.everyWidthUpTo800();
        for (int i = 0; i < 400; i++) {
            test.fractionOfTwoPatterns(i);
            test.commonDivisorIsTakenOut(i);
            test.twoFractions(i);
        }
        test.fibonacciNumbers();
        test.checks.end();
    }

    private int draw(int below) {
        drawn = drawn * 6364136223846793005L + 1442695040888963407L;
        return (int) ((drawn >>> 33) % below);
    }

    /** A whole number in sections of zeros, of ones and of anything, which end near the ends of limbs. */
    private BigInteger pattern(int width) {
        BigInteger number = ONE;
        while (number.bitLength() < width) {
            int length = Math.min(width - number.bitLength(), draw(3) == 0 ? 31 * (1 + draw(3)) + draw(3) - 1 : 1 + draw(66));
            BigInteger section = switch (draw(3)) {
                case 0 -> BigInteger.ZERO;
                case 1 -> ONE.shiftLeft(length).subtract(ONE);
                default -> {
                    BigInteger any = BigInteger.ZERO;
                    for (int i = 0; i < length; i++) {
                        any = any.shiftLeft(1).add(BigInteger.valueOf(draw(2)));
                    }
                    yield any;
                }
            };
            number = number.shiftLeft(length).add(section);
        }
        return number;
    }

    private void divisionsWithAQuotientGuessedTooGreat() {
        // Guessing by the divisor's highest limbs gives 4 here, and the last limb alone says that it is 3.
        for (int lift = 0; lift < 4; lift++) {
            BigInteger divisor = Numbers.power(90 - lift).add(ONE);
            for (int times = 2; times < 9; times++) {
                BigInteger number = divisor.multiply(BigInteger.valueOf(times)).subtract(ONE);
                checks.dueMade("floor of " + number + " / " + divisor,
                    x -> x.round(Numbers.make(x, number, divisor), 0, 1), BigInteger.valueOf(times - 1), ONE);
            }
        }
    }

    private void everyWidthUpTo800() {
        for (int width = 1; width <= 800; width += width > 780 ? 1 : 7) {
            BigInteger most = Numbers.ones(width);
            checks.dueMade("2^" + width + " - 1", x -> Numbers.make(x, most), most, ONE);
            KerfFractions x = new KerfFractions();
            int a = Numbers.make(x, most);
            checks.due("bits of 2^" + width + " - 1", x.bits(a), width + 1);
            int b = x.add(a, x.value(1, 1));
            checks.due("2^" + width + " is put", b != KerfFractions.NONE, width < 800);
        }
    }

    private void fractionOfTwoPatterns(int run) {
        BigInteger top = pattern(1 + draw(700));
        BigInteger bottom = pattern(1 + draw(800));
        String what = "run " + run + ": " + top + " / " + bottom;
        checks.dueMade(what, x -> Numbers.make(x, top, bottom), top, bottom);
        checks.dueMade("floor of " + what, x -> x.round(Numbers.make(x, top, bottom), 0, 1), top.divide(bottom), ONE);
        int bits = draw(201);
        BigInteger s = top.shiftLeft(2 * bits).divide(bottom).sqrt();
        checks.dueMade("root by " + bits + " bits of " + what,
            x -> x.end(x.root(Numbers.make(x, top, bottom), bits), 0), s, Numbers.power(bits));
        KerfFractions x = new KerfFractions();
        int side = Numbers.make(x, pattern(1 + draw(390)));
        int square = x.times(side, side);
        int exact = x.root(square, bits);
        checks.due("both ends of an exact root, " + what, x.order(x.end(exact, 0), x.end(exact, 1)), 0);
        checks.due("an exact root, " + what, x.order(x.end(exact, 0), side), 0);
    }

    private void commonDivisorIsTakenOut(int run) {
        BigInteger common = pattern(1 + draw(600));
        BigInteger top = common.multiply(pattern(1 + draw(200)));
        BigInteger bottom = common.multiply(pattern(1 + draw(200)));
        checks.dueMade("run " + run + ": " + top + " / " + bottom, x -> Numbers.make(x, top, bottom), top, bottom);
    }

    private void twoFractions(int run) {
        BigInteger a = pattern(1 + draw(390));
        BigInteger b = pattern(1 + draw(390));
        BigInteger size = pattern(1 + draw(390));
        BigInteger c = draw(2) == 0 ? size : size.negate();
        BigInteger d = pattern(1 + draw(390));
        String what = "run " + run + ": " + a + "/" + b + ", " + c + "/" + d;
        BigInteger left = a.multiply(d);
        BigInteger right = c.multiply(b);
        BigInteger below = b.multiply(d);
        checks.dueMade("sum, " + what, x -> x.add(Numbers.make(x, a, b), Numbers.make(x, c, d)), left.add(right), below);
        checks.dueMade("product, " + what, x -> x.times(Numbers.make(x, a, b), Numbers.make(x, c, d)), a.multiply(c), below);
        BigInteger side = BigInteger.valueOf(right.signum());
        checks.dueMade("quotient, " + what, x -> x.over(Numbers.make(x, a, b), Numbers.make(x, c, d)),
            left.multiply(side), right.abs());
        KerfFractions x = new KerfFractions();
        checks.due("order, " + what, x.order(Numbers.make(x, a, b), Numbers.make(x, c, d)), left.compareTo(right));
    }

    /** Euclid needs the most steps for these, and only the last of them tells that there is no common divisor. */
    private void fibonacciNumbers() {
        BigInteger before = ONE;
        BigInteger last = ONE;
        while (last.add(before).bitLength() <= 800) {
            BigInteger next = last.add(before);
            before = last;
            last = next;
        }
        BigInteger greater = last;
        BigInteger lesser = before;
        checks.dueMade("two Fibonacci numbers", x -> Numbers.make(x, greater, lesser), greater, lesser);
        KerfFractions x = new KerfFractions();
        int a = Numbers.make(x, greater, lesser);
        checks.due("product beyond 800 bits", x.times(a, a), KerfFractions.NONE);
        int product = x.times(a, x.over(x.value(1, 1), a));
        checks.due("product of one and its reciprocal", Numbers.show(x, product), "1/1");
    }
}
