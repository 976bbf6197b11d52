import java.math.BigInteger;

/** The edges that the document's sixteen promises name, sentence by sentence. */
public final class PromiseEdgesTest {
    private static final Class<?> INDEX = ArrayIndexOutOfBoundsException.class;
    private static final Class<?> ARGUMENT = IllegalArgumentException.class;
    private static final Class<?> DIVISION = ArithmeticException.class;
    private static final int NONE = KerfFractions.NONE;
    private static final long LEAST = Long.MIN_VALUE;
    private static final long GREATEST = Long.MAX_VALUE;
    private static final int[] NO_PARTS = {-1, 2, Integer.MIN_VALUE, Integer.MAX_VALUE};
    private static final long[] NOT_TO_A_BILLION = {-1, 1000000001L, LEAST, GREATEST, (1L << 32) + 1, -(1L << 32)};

    private final Checks checks = new Checks("PromiseEdgesTest");

    public static void main(String[] args) {
        PromiseEdgesTest test = new PromiseEdgesTest();
        test.reckoning();
        test.roots();
        test.roundings();
        test.weights();
        test.looks();
        test.checks.end();
    }

    private void reckoning() {
        checks.sentence("1: all 150 VALUES are 0", this::newValues);
        checks.sentence("1: the ENDS of all ROOTS are 0", this::newEnds);
        checks.sentence("1: none put yet", this::newNumbers);
        checks.sentence("1: all WEIGHTS are 0", this::newWeights);
        checks.sentence("2: any longs, the sign of both counts", this::valueOfAnyLongs);
        checks.sentence("2: ArithmeticException", this::valueByZero);
        checks.sentence("3: a + b", this::sums);
        checks.sentence("4: a * b", this::products);
        checks.sentence("5: a / b", this::quotients);
        checks.sentence("5: ArithmeticException", this::quotientsByZero);
        checks.sentence("6: -1 if a is less than b, 1 if it is more, else 0", this::orders);
        checks.sentence("6: of the longest numbers", this::ordersOfTheLongest);
    }

    private void roots() {
        checks.sentence("7: enclosed by so many bits, 0 .. 200", this::bitsOfRoots);
        checks.sentence("7: a is below 0", this::rootsBelowZero);
        checks.sentence("7: the least number that was not used before", this::numbersOfRoots);
        checks.sentence("7: NONE, if there is none: the 40th root and the one after it", this::root40);
        checks.sentence("7: or fewer than two numbers for values are left", this::rootsWithoutValues);
        checks.sentence("7: NONE behind what throws", this::noRootBehindWhatThrows);
        checks.sentence("7: its ends become two values, the lower one first", this::endsBecomeValues);
        checks.sentence("8: the lower end (0) or the upper one (1)", this::ends);
    }

    private void roundings() {
        checks.sentence("9: 0 down", () -> dueRounded(0, 2, -3, 3, -4, 2, -3, -1, 0, 0, -1));
        checks.sentence("9: 1 up", () -> dueRounded(1, 3, -2, 4, -3, 3, -2, 0, 1, 1, 0));
        checks.sentence("9: 2 to the nearest one, of two such the greater", () -> dueRounded(2, 3, -2, 4, -3, 2, -3, 0, 1, 0, 0));
        checks.sentence("9: 3 likewise, of two such the even one", () -> dueRounded(3, 2, -2, 4, -4, 2, -3, 0, 0, 0, 0));
        checks.sentence("9: even one of the times", this::evenTimes);
        checks.sentence("9: a whole number of times unit", this::unitsOfRoundings);
        checks.sentence("9: halves of the longest numbers", this::longHalves);
        checks.sentence("9: rule is not 0 .. 3, or unit below 1", this::wrongRoundings);
        checks.sentence("10: the same length in another unit", this::turns);
    }

    private void weights() {
        checks.sentence("11: whether there was one left", this::weight32);
        checks.sentence("11: and w is 0 .. 1000000000", this::weightsAtTheirLimits);
        checks.sentence("11: the next weight (from 0 on) becomes w", this::nextWeight);
        checks.sentence("12: all weights are 0, and the next one is weight 0 again", this::clearedWeights);
        checks.sentence("13: whole is 0 .. 1000000000", this::wholes);
        checks.sentence("13: all weights are 0", this::sharesWithoutWeights);
    }

    private void looks() {
        checks.sentence("14: decimal digit i, from the highest one (0) on", this::digitsInOrder);
        checks.sentence("14: of the size", this::digitsOfTheSize);
        checks.sentence("14: of 0 there is one digit", this::digitsOfZero);
        checks.sentence("14: every length of a number", this::everyLength);
        checks.sentence("14: of the longest numbers", this::digitsOfTheLongest);
        checks.sentence("14: no such digit", this::noSuchDigit);
        checks.sentence("14: another part", this::otherParts);
        checks.sentence("15: how many bits numerator and denominator have together", this::bits);
        checks.sentence("15: 0 for the value 0", this::bitsOfZero);
        checks.sentence("16: 1, 0 or -1", this::signs);
    }

    private static KerfFractions of(long... parts) {
        KerfFractions x = new KerfFractions();
        for (int i = 0; i + 1 < parts.length; i += 2) {
            x.value(parts[i], parts[i + 1]);
        }
        return x;
    }

    private static KerfFractions ofWeights(long... weights) {
        KerfFractions x = new KerfFractions();
        for (long w : weights) {
            x.weight(w);
        }
        return x;
    }

    private void dueNext(String what, KerfFractions x, int number, int wantNumber, String want) {
        checks.due(what + ": number", number, wantNumber);
        if (number == wantNumber) {
            checks.due(what, Numbers.show(x, number), want);
        }
    }

    private void newValues() {
        KerfFractions x = new KerfFractions();
        KerfFractions y = new KerfFractions();
        for (int a = 0; a < 150; a++) {
            checks.due("sign of " + a, x.sign(a), 0);
            checks.due("bits of " + a, x.bits(a), 0);
            checks.due("order of " + a, x.order(a, 149 - a), 0);
            checks.due("digit of " + a, y.digit(a, 0, 0), 0);
            checks.due("digit of the denominator of " + a, y.digit(a, 1, 0), 1);
        }
    }

    private void newEnds() {
        KerfFractions x = new KerfFractions();
        for (int root = 0; root < 40; root++) {
            checks.due("lower end of " + root, x.end(root, 0), 0);
            checks.due("upper end of " + root, x.end(root, 1), 0);
        }
    }

    private void newNumbers() {
        checks.due("the first value", new KerfFractions().value(1, 1), 0);
        checks.due("the first sum", new KerfFractions().add(0, 149), 0);
        KerfFractions x = new KerfFractions();
        checks.due("the first root", x.root(0, 0), 0);
        checks.due("its lower end", x.end(0, 0), 0);
        checks.due("its upper end", x.end(0, 1), 1);
        KerfFractions used = of(1, 2);
        used.weight(3);
        checks.due("the first value of another object", new KerfFractions().value(1, 1), 0);
    }

    private void newWeights() {
        for (int k = 0; k < 32; k++) {
            int weight = k;
            checks.dueThrows("share of weight " + k, DIVISION, () -> new KerfFractions().share(1, weight));
        }
        KerfFractions x = ofWeights(5);
        checks.due("the first weight is weight 0", x.share(3, 0), 3);
    }

    private void valueOfAnyLongs() {
        String size = "9223372036854775808";
        String lesser = "9223372036854775807";
        Object[][] rows = {
            {LEAST, 1L, "-" + size + "/1"}, {LEAST, -1L, size + "/1"}, {1L, LEAST, "-1/" + size}, {-1L, LEAST, "1/" + size},
            {LEAST, LEAST, "1/1"}, {LEAST, GREATEST, "-" + size + "/" + lesser}, {GREATEST, LEAST, "-" + lesser + "/" + size},
            {GREATEST, 1L, lesser + "/1"}, {GREATEST, -1L, "-" + lesser + "/1"}, {1L, GREATEST, "1/" + lesser},
            {-1L, GREATEST, "-1/" + lesser}, {GREATEST, GREATEST, "1/1"}, {GREATEST, -GREATEST, "-1/1"},
            {-GREATEST, -GREATEST, "1/1"}, {LEAST, 2L, "-4611686018427387904/1"}, {2L, LEAST, "-1/4611686018427387904"},
            {LEAST, -GREATEST, size + "/" + lesser}, {0L, LEAST, "0/1"}, {0L, GREATEST, "0/1"}, {0L, -1L, "0/1"},
            {LEAST + 1, 7L, "-1317624576693539401/1"}, {6L, -9L, "-2/3"}, {-6L, -9L, "2/3"}, {-6L, 9L, "-2/3"}, {6L, 9L, "2/3"},
        };
        for (Object[] row : rows) {
            KerfFractions x = new KerfFractions();
            dueNext(row[0] + " / " + row[1], x, x.value((long) row[0], (long) row[1]), 0, (String) row[2]);
        }
    }

    private void valueByZero() {
        for (long above : new long[] {1, -1, 0, LEAST, GREATEST}) {
            KerfFractions x = of(1, 2);
            checks.dueThrows(above + " / 0", DIVISION, () -> x.value(above, 0));
            checks.due("the next value", x.value(above, 3), 1);
        }
    }

    private void sums() {
        KerfFractions x = of(LEAST, 1, GREATEST, 1, 1, LEAST, -1, LEAST, 1, 1, -1, 2, 0, 7);
        dueNext("least + least", x, x.add(0, 0), 7, "-18446744073709551616/1");
        dueNext("least + greatest", x, x.add(0, 1), 8, "-1/1");
        dueNext("greatest + least", x, x.add(1, 0), 9, "-1/1");
        dueNext("greatest + 1", x, x.add(1, 4), 10, "9223372036854775808/1");
        dueNext("-1 / 2^63 + 1 / 2^63", x, x.add(2, 3), 11, "0/1");
        dueNext("-1 / 2^63 twice", x, x.add(2, 2), 12, "-1/4611686018427387904");
        dueNext("greatest + 1 / 2^63", x, x.add(1, 3), 13, "85070591730234615856620279821087277057/9223372036854775808");
        dueNext("1 + -1/2", x, x.add(4, 5), 14, "1/2");
        dueNext("-1/2 + 0", x, x.add(5, 6), 15, "-1/2");
        dueNext("0 + -1/2", x, x.add(6, 5), 16, "-1/2");
        dueNext("0 + 0", x, x.add(6, 6), 17, "0/1");
        checks.due("bits of a sum that is 0", x.bits(11), 0);
    }

    private void products() {
        KerfFractions x = of(LEAST, 1, GREATEST, 1, 1, LEAST, 0, 7, -1, 1);
        dueNext("least * least", x, x.times(0, 0), 5, "85070591730234615865843651857942052864/1");
        dueNext("least * greatest", x, x.times(0, 1), 6, "-85070591730234615856620279821087277056/1");
        dueNext("least * -1 / 2^63", x, x.times(0, 2), 7, "1/1");
        dueNext("least * 0", x, x.times(0, 3), 8, "0/1");
        dueNext("0 * least", x, x.times(3, 0), 9, "0/1");
        dueNext("-1 * -1", x, x.times(4, 4), 10, "1/1");
        dueNext("-1 * least", x, x.times(4, 0), 11, "9223372036854775808/1");
        checks.due("bits of a product that is 0", x.bits(8), 0);
    }

    private void quotients() {
        KerfFractions x = of(LEAST, 1, GREATEST, 1, 1, LEAST, 0, 7, -1, 1);
        dueNext("least / -1", x, x.over(0, 4), 5, "9223372036854775808/1");
        dueNext("-1 / least", x, x.over(4, 0), 6, "1/9223372036854775808");
        dueNext("least / greatest", x, x.over(0, 1), 7, "-9223372036854775808/9223372036854775807");
        dueNext("least / least", x, x.over(0, 0), 8, "1/1");
        dueNext("least / (-1 / 2^63)", x, x.over(0, 2), 9, "85070591730234615865843651857942052864/1");
        dueNext("0 / least", x, x.over(3, 0), 10, "0/1");
        checks.due("bits of a quotient that is 0", x.bits(10), 0);
    }

    private void quotientsByZero() {
        KerfFractions x = of(LEAST, 1, 0, -7, 1, 3);
        x.add(0, 1);
        x.times(0, 1);
        for (int zero : new int[] {1, 4, 5, 149}) {
            for (int a : new int[] {0, 1, 2, 149}) {
                checks.dueThrows("value " + a + " / value " + zero, DIVISION, () -> x.over(a, zero));
            }
        }
        checks.due("the next value", x.over(1, 0), 5);
    }

    private void orders() {
        // From the least to the greatest.
        KerfFractions x = of(LEAST, 1, -GREATEST, 1, -1, 1, 1 - GREATEST, GREATEST, -1, GREATEST, 1, LEAST, 0, 1, -1, LEAST, 1, GREATEST,
            GREATEST - 1, GREATEST, 1, 1, GREATEST, GREATEST - 1, GREATEST, 1);
        for (int a = 0; a < 13; a++) {
            for (int b = 0; b < 13; b++) {
                checks.due("order of " + a + " and " + b, x.order(a, b), Integer.compare(a, b));
            }
        }
        KerfFractions y = of(-6, 4, 3, -2, 0, 5, 0, -5);
        checks.due("order of -6/4 and 3/-2", y.order(0, 1), 0);
        checks.due("order of 0/5 and 0/-5", y.order(2, 3), 0);
        checks.due("order makes no value", y.value(1, 1), 4);
    }

    private void ordersOfTheLongest() {
        KerfFractions x = new KerfFractions();
        int high = Numbers.make(x, Numbers.power(799));
        int minus = x.value(-1, 1);
        int most = x.add(high, x.add(high, minus));
        int lesser = x.add(most, minus);
        int[] rising = {x.times(most, minus), x.times(lesser, minus), x.over(most, x.times(lesser, minus)),
            x.over(lesser, x.times(most, minus)), x.over(minus, lesser), x.over(minus, most), 149, x.over(x.value(1, 1), most),
            x.over(x.value(1, 1), lesser), x.over(lesser, most), x.over(most, lesser), lesser, most};
        for (int i = 0; i < rising.length; i++) {
            for (int j = 0; j < rising.length; j++) {
                checks.due("order of long ones " + i + " and " + j, x.order(rising[i], rising[j]), Integer.compare(i, j));
            }
        }
    }

    private void bitsOfRoots() {
        KerfFractions x = of(2, 1);
        checks.due("0 bits", x.root(0, 0), 0);
        checks.due("0 bits: lower end", Numbers.show(x, x.end(0, 0)), "1/1");
        checks.due("1 bit", x.root(0, 1), 1);
        checks.due("1 bit: upper end", Numbers.show(x, x.end(1, 1)), "3/2");
        checks.due("199 bits", x.root(0, 199), 2);
        checks.due("200 bits", x.root(0, 200), 3);
        checks.due("200 bits: upper end, an odd number / 2^200", x.bits(x.end(3, 1)), 201 + 201);
        for (int bits : new int[] {-1, 201, Integer.MIN_VALUE, Integer.MAX_VALUE}) {
            checks.dueThrows(bits + " bits", ARGUMENT, () -> x.root(0, bits));
            checks.dueThrows(bits + " bits for 0", ARGUMENT, () -> x.root(149, bits));
        }
    }

    private void rootsBelowZero() {
        KerfFractions x = of(-1, 1, 1, LEAST, LEAST, 1, 0, -1);
        for (int a = 0; a < 3; a++) {
            int below = a;
            checks.dueThrows("value " + a + " by 0 bits", ARGUMENT, () -> x.root(below, 0));
            checks.dueThrows("value " + a + " by 200 bits", ARGUMENT, () -> x.root(below, 200));
        }
        checks.due("0 is not below 0", x.root(3, 200), 0);
    }

    private void numbersOfRoots() {
        KerfFractions x = of(5, 1, -5, 1);
        checks.due("the first root", x.root(0, 0), 0);
        checks.dueThrows("a root below 0", ARGUMENT, () -> x.root(1, 0));
        checks.due("the second root", x.root(0, 0), 1);
        checks.dueThrows("a root of no value", INDEX, () -> x.root(150, 0));
        checks.dueThrows("a root by 201 bits", ARGUMENT, () -> x.root(0, 201));
        checks.due("the third root", x.root(149, 0), 2);
    }

    private void root40() {
        KerfFractions x = of(5, 1);
        for (int root = 0; root < 39; root++) {
            x.root(0, 3);
        }
        checks.due("the 40th root", x.root(0, 200), 39);
        checks.due("its lower end", x.end(39, 0), 79);
        checks.due("its upper end", x.end(39, 1), 80);
        checks.due("the one after it", x.root(0, 3), NONE);
        checks.due("and once more", x.root(149, 0), NONE);
        checks.due("no value was made by them", x.value(1, 1), 81);
        checks.due("the 40th root's lower end stays", x.end(39, 0), 79);
        checks.due("the first root's upper end stays", x.end(0, 1), 2);
    }

    /** So many values put, all of them 5. */
    private static KerfFractions fives(int many) {
        KerfFractions x = new KerfFractions();
        for (int i = 0; i < many; i++) {
            x.value(5, 1);
        }
        return x;
    }

    private void rootsWithoutValues() {
        KerfFractions three = fives(147);
        checks.due("three numbers are left", three.root(0, 0), 0);
        checks.due("then one is", three.root(0, 0), NONE);
        checks.due("it is left still", three.value(1, 1), 149);
        KerfFractions two = fives(148);
        checks.due("two numbers are left", two.root(0, 0), 0);
        checks.due("the lower end is value 148", two.end(0, 0), 148);
        checks.due("the upper end is value 149", two.end(0, 1), 149);
        checks.due("the upper end", Numbers.show(two, 149), "3/1");
        checks.due("then none is", two.root(0, 0), NONE);
        KerfFractions one = fives(149);
        checks.due("one number is left", one.root(0, 0), NONE);
        checks.due("one number is left, and the root is exact", one.root(149, 0), NONE);
        checks.due("no end was put", one.end(0, 0), 0);
        checks.due("nor the other one", one.end(0, 1), 0);
        checks.due("value 149 is 0 still", one.sign(149), 0);
        checks.due("and is put next", one.value(1, 1), 149);
        KerfFractions none = fives(150);
        checks.due("no number is left", none.root(0, 0), NONE);
        checks.due("no end was put then", none.end(0, 1), 0);
    }

    private void noRootBehindWhatThrows() {
        KerfFractions roots = of(5, 1, -5, 1);
        for (int root = 0; root < 40; root++) {
            roots.root(0, 3);
        }
        KerfFractions values = fives(148);
        values.value(-5, 1);
        values.value(-5, 1);
        for (KerfFractions x : new KerfFractions[] {roots, values}) {
            int below = x == roots ? 1 : 149;
            checks.due("NONE alone", x.root(0, 0), NONE);
            checks.dueThrows("below 0", ARGUMENT, () -> x.root(below, 0));
            checks.dueThrows("-1 bits", ARGUMENT, () -> x.root(0, -1));
            checks.dueThrows("201 bits", ARGUMENT, () -> x.root(0, 201));
            checks.dueThrows("value -1", INDEX, () -> x.root(-1, 0));
            checks.dueThrows("value 150", INDEX, () -> x.root(150, 201));
        }
    }

    private void endsBecomeValues() {
        KerfFractions x = of(5, 1);
        x.root(0, 1);
        checks.due("value 1", Numbers.show(x, 1), "2/1");
        checks.due("value 2", Numbers.show(x, 2), "5/2");
        dueNext("the value behind them", x, x.add(1, 2), 3, "9/2");
        KerfFractions y = of(25, 1);
        y.root(0, 7);
        checks.due("the lower one of an exact root", Numbers.show(y, 1), "5/1");
        checks.due("the upper one of an exact root", Numbers.show(y, 2), "5/1");
        checks.due("the value behind two that are the same", y.value(1, 1), 3);
    }

    private void ends() {
        KerfFractions x = of(5, 1);
        x.root(0, 0);
        x.value(1, 1);
        x.root(0, 9);
        checks.due("root 0, lower", x.end(0, 0), 1);
        checks.due("root 0, upper", x.end(0, 1), 2);
        checks.due("root 1, lower", x.end(1, 0), 4);
        checks.due("root 1, upper", x.end(1, 1), 5);
        checks.due("root 2, not used", x.end(2, 0) + x.end(2, 1), 0);
        checks.due("root 39, not used", x.end(39, 0) + x.end(39, 1), 0);
        for (int no : new int[] {-1, 40, 41, Integer.MIN_VALUE, Integer.MAX_VALUE}) {
            checks.dueThrows("root " + no, INDEX, () -> x.end(no, 0));
            checks.dueThrows("root " + no + ", upper", INDEX, () -> x.end(no, 1));
        }
        for (int no : NO_PARTS) {
            checks.dueThrows("end " + no, INDEX, () -> x.end(0, no));
            checks.dueThrows("end " + no + " of the last root", INDEX, () -> x.end(39, no));
        }
    }

    /** 5/2, -5/2, 7/2, -7/2, 7/3, -8/3, -1/2, 1/2, 1 / (2^63 - 1) and -1 / (2^63 - 1), rounded to whole numbers. */
    private void dueRounded(int rule, long... want) {
        long[][] given = {{5, 2}, {-5, 2}, {7, 2}, {-7, 2}, {7, 3}, {-8, 3}, {-1, 2}, {1, 2}, {1, GREATEST}, {-1, GREATEST}};
        for (int i = 0; i < given.length; i++) {
            KerfFractions x = of(given[i][0], given[i][1]);
            dueNext(given[i][0] + "/" + given[i][1], x, x.round(0, rule, 1), 1, want[i] + "/1");
        }
        for (long whole : new long[] {0, 1, -1, 6, GREATEST, LEAST}) {
            KerfFractions x = of(whole, 1);
            dueNext(whole + " by itself", x, x.round(0, rule, 1), 1, whole + "/1");
        }
    }

    private void evenTimes() {
        // 15 is between 1 and 2 tens, 25 between 2 and 3; the times are even, not what they make.
        long[][] rows = {{15, 10, 20}, {25, 10, 20}, {35, 10, 40}, {-15, 10, -20}, {-25, 10, -20}, {-5, 10, 0}, {5, 10, 0},
            {3, 2, 4}, {1, 2, 0}, {-3, 2, -4}, {-1, 2, 0}, {14, 10, 10}, {16, 10, 20}, {-14, 10, -10}, {-16, 10, -20}};
        for (long[] row : rows) {
            KerfFractions x = of(row[0], 1);
            dueNext(row[0] + " to times of " + row[1], x, x.round(0, 3, row[1]), 1, row[2] + "/1");
        }
    }

    private void unitsOfRoundings() {
        String greatest = "9223372036854775807/1";
        KerfFractions x = of(1, GREATEST, GREATEST, 1, LEAST, 1, GREATEST, 2, GREATEST, 3);
        dueNext("a little up to the greatest unit", x, x.round(0, 1, GREATEST), 5, greatest);
        dueNext("a little down from it", x, x.round(0, 0, GREATEST), 6, "0/1");
        dueNext("the greatest unit itself", x, x.round(1, 0, GREATEST), 7, greatest);
        dueNext("one less than minus the unit, down", x, x.round(2, 0, GREATEST), 8, "-18446744073709551614/1");
        dueNext("one less than minus the unit, up", x, x.round(2, 1, GREATEST), 9, "-" + greatest);
        dueNext("half the unit, to the greater", x, x.round(3, 2, GREATEST), 10, greatest);
        dueNext("half the unit, to the even one", x, x.round(3, 3, GREATEST), 11, "0/1");
        dueNext("a third of the unit, to the nearest", x, x.round(4, 2, GREATEST), 12, "0/1");
        dueNext("by unit 1", x, x.round(1, 0, 1), 13, greatest);
        dueNext("by unit 2, up", x, x.round(1, 1, 2), 14, "9223372036854775808/1");
        dueNext("0 by the greatest unit", x, x.round(149, 1, GREATEST), 15, "0/1");
    }

    private void longHalves() {
        // (2^800 - 1) / 2 is between 2^799 - 1 and 2^799, (2^800 - 3) / 2 between 2^799 - 2 and 2^799 - 1.
        BigInteger even = Numbers.power(799);
        BigInteger odd = even.subtract(Numbers.ONE);
        BigInteger lesserEven = odd.subtract(Numbers.ONE);
        dueHalf(Numbers.ones(800), 2, even);
        dueHalf(Numbers.ones(800), 3, even);
        dueHalf(Numbers.ones(800).subtract(BigInteger.TWO), 2, odd);
        dueHalf(Numbers.ones(800).subtract(BigInteger.TWO), 3, lesserEven);
        dueHalf(Numbers.ones(800).negate(), 2, odd.negate());
        dueHalf(Numbers.ones(800).negate(), 3, even.negate());
        // A little more and a little less than a half: by 1 / 2^799.
        BigInteger half = Numbers.power(798);
        checks.dueMade("more than 1/2", x -> x.round(Numbers.make(x, half.add(Numbers.ONE), even), 3, 1), Numbers.ONE, Numbers.ONE);
        BigInteger less = half.subtract(Numbers.ONE);
        checks.dueMade("less than 1/2", x -> x.round(Numbers.make(x, less, even), 2, 1), BigInteger.ZERO, Numbers.ONE);
    }

    private void dueHalf(BigInteger twice, int rule, BigInteger want) {
        checks.dueMade("half of " + twice + " by rule " + rule,
            x -> x.round(Numbers.make(x, twice, BigInteger.TWO), rule, 1), want, Numbers.ONE);
    }

    private void wrongRoundings() {
        KerfFractions x = of(5, 2);
        for (int rule : new int[] {-1, 4, Integer.MIN_VALUE, Integer.MAX_VALUE}) {
            checks.dueThrows("rule " + rule, ARGUMENT, () -> x.round(0, rule, 1));
            checks.dueThrows("rule " + rule + " and unit 0", ARGUMENT, () -> x.round(0, rule, 0));
        }
        for (long unit : new long[] {0, -1, LEAST}) {
            for (int rule = 0; rule < 4; rule++) {
                int each = rule;
                checks.dueThrows("unit " + unit + " by rule " + rule, ARGUMENT, () -> x.round(0, each, unit));
            }
        }
        checks.due("rule 0", x.round(0, 0, 1), 1);
        checks.due("rule 3", x.round(0, 3, 1), 2);
    }

    private void turns() {
        KerfFractions x = of(LEAST, 1, 1, LEAST, 0, 1, 127, 1);
        dueNext("-2^63 m in 0.01 mm", x, x.turn(0, 2, 0), 4, "-922337203685477580800000/1");
        dueNext("-1 / 2^63 0.01 mm in m", x, x.turn(1, 0, 2), 5, "-1/922337203685477580800000");
        dueNext("-2^63 lines in m", x, x.turn(0, 5, 2), 6, "-36605257771267391488/1875");
        dueNext("0 inches in lines", x, x.turn(2, 3, 5), 7, "0/1");
        dueNext("127 mm in inches", x, x.turn(3, 1, 3), 8, "5/1");
        dueNext("there", x, x.turn(1, 4, 1), 9, "-381/11529215046068469760");
        dueNext("and back", x, x.turn(9, 1, 4), 10, "-1/9223372036854775808");
        dueNext("in the same unit", x, x.turn(0, 5, 5), 11, "-9223372036854775808/1");
    }

    private void weight32() {
        KerfFractions x = new KerfFractions();
        for (int k = 0; k < 31; k++) {
            checks.due("weight " + k, x.weight(0), true);
        }
        checks.due("the 32nd weight", x.weight(1000000000), true);
        checks.due("the one after it", x.weight(0), false);
        checks.due("and once more", x.weight(1), false);
        checks.due("a wrong one after it", x.weight(-1), false);
        checks.due("the 32nd stays", x.share(7, 31), 7);
        checks.due("the first stays", x.share(7, 0), 0);
    }

    private void weightsAtTheirLimits() {
        KerfFractions x = new KerfFractions();
        checks.due("0", x.weight(0), true);
        checks.due("1000000000", x.weight(1000000000), true);
        checks.due("999999999", x.weight(999999999), true);
        for (long w : NOT_TO_A_BILLION) {
            checks.due(String.valueOf(w), x.weight(w), false);
        }
        checks.due("share of weight 0", x.share(1000000000, 0), 0);
        checks.due("share of weight 1000000000", x.share(1999999999L / 2, 1), 500000000);
        checks.due("share of weight 999999999", x.share(1999999999L / 2, 2), 499999999);
    }

    private void nextWeight() {
        KerfFractions x = new KerfFractions();
        checks.due("a wrong one first", x.weight(-1), false);
        x.weight(1);
        checks.due("a wrong one between", x.weight(1000000001), false);
        x.weight(2);
        x.share(9, 5);
        x.value(1, 1);
        x.weight(4);
        long[] want = {10, 20, 40, 0};
        for (int k = 0; k < want.length; k++) {
            checks.due("share of weight " + k, x.share(70, k), want[k]);
        }
    }

    private void clearedWeights() {
        KerfFractions x = new KerfFractions();
        x.clearWeights();
        checks.due("weight 0 behind clearing a new object", x.weight(1), true);
        checks.due("its share", x.share(5, 0), 5);
        for (int k = 1; k < 32; k++) {
            x.weight(k);
        }
        x.clearWeights();
        x.clearWeights();
        for (int k = 0; k < 32; k++) {
            int cleared = k;
            checks.dueThrows("weight " + k + " is 0", DIVISION, () -> x.share(5, cleared));
        }
        checks.due("a weight is left", x.weight(3), true);
        for (int k = 0; k < 32; k++) {
            checks.due("share of weight " + k, x.share(5, k), k == 0 ? 5 : 0);
        }
        for (int k = 1; k < 32; k++) {
            checks.due("weight " + k + " of 32 anew", x.weight(3), true);
        }
        checks.due("none is left anew", x.weight(3), false);
        KerfFractions y = of(2, 1);
        y.root(0, 0);
        y.clearWeights();
        checks.due("the values stay", Numbers.show(y, 0), "2/1");
        checks.due("the roots stay", y.end(0, 1), 2);
        checks.due("the next value", y.value(1, 1), 3);
    }

    private void wholes() {
        KerfFractions x = ofWeights(1000000000, 0, 1);
        checks.due("0", x.share(0, 0), 0);
        checks.due("1", x.share(1, 0), 1);
        checks.due("999999999", x.share(999999999, 0), 999999998);
        checks.due("1000000000", x.share(1000000000, 0), 999999999);
        checks.due("1000000000, the last weight", x.share(1000000000, 2), 1);
        for (long whole : NOT_TO_A_BILLION) {
            checks.dueThrows(String.valueOf(whole), ARGUMENT, () -> x.share(whole, 0));
        }
        KerfFractions all = new KerfFractions();
        for (int k = 0; k < 32; k++) {
            all.weight(1000000000);
        }
        for (int k = 0; k < 32; k++) {
            checks.due("32 of the greatest weights, " + k, all.share(1000000000, k), 31250000);
            checks.due("32 of the greatest weights and one less, " + k, all.share(999999999, k), k < 31 ? 31250000 : 31249999);
        }
    }

    private void sharesWithoutWeights() {
        KerfFractions x = ofWeights(0, 0);
        for (long whole : new long[] {0, 1, 1000000000}) {
            for (int k : new int[] {0, 1, 2, 31}) {
                checks.dueThrows(whole + " of weight " + k, DIVISION, () -> x.share(whole, k));
            }
        }
        x.weight(1);
        checks.due("one weight is not 0", x.share(1000000000, 2), 1000000000);
        checks.due("a weight of 0 beside it", x.share(1000000000, 0), 0);
    }

    private void digitsInOrder() {
        KerfFractions x = of(9876543210L, 123456789);
        String above = "1097393690";
        String below = "13717421";
        for (int i = 0; i < above.length(); i++) {
            checks.due("digit " + i, x.digit(0, 0, i), above.charAt(i) - '0');
        }
        for (int i = 0; i < below.length(); i++) {
            checks.due("digit " + i + " of the denominator", x.digit(0, 1, i), below.charAt(i) - '0');
        }
    }

    private void digitsOfTheSize() {
        KerfFractions x = of(-270, 11, LEAST, 1, 1, LEAST);
        checks.due("-270/11", Numbers.digits(x, 0, 0) + "/" + Numbers.digits(x, 0, 1), "270/11");
        checks.due("the least long", Numbers.digits(x, 1, 0), "9223372036854775808");
        checks.due("1 / the least long", Numbers.digits(x, 2, 1), "9223372036854775808");
    }

    private void digitsOfZero() {
        KerfFractions x = of(0, -9, 1, 1, -1, 1);
        x.add(1, 2);
        for (int zero : new int[] {0, 3, 149}) {
            checks.due("the digit of 0", x.digit(zero, 0, 0), 0);
            checks.due("the digit of its denominator", x.digit(zero, 1, 0), 1);
            for (int no : new int[] {1, -1, 9, Integer.MIN_VALUE, Integer.MAX_VALUE}) {
                checks.dueThrows("digit " + no + " of 0", INDEX, () -> x.digit(zero, 0, no));
                checks.dueThrows("digit " + no + " of its denominator", INDEX, () -> x.digit(zero, 1, no));
            }
        }
    }

    /** 10^n and 10^n - 1 for every n that there is room for: n + 1 digits and n of them. */
    private void everyLength() {
        for (int n = 1; n <= 240; n++) {
            BigInteger ten = BigInteger.TEN.pow(n);
            BigInteger nines = ten.subtract(Numbers.ONE);
            checks.dueMade("10^" + n, x -> Numbers.make(x, ten), ten, Numbers.ONE);
            checks.dueMade("1 / (10^" + n + " - 1)", x -> x.over(x.value(1, 1), Numbers.make(x, nines)), Numbers.ONE, nines);
        }
    }

    private void digitsOfTheLongest() {
        BigInteger most = Numbers.ones(800);
        checks.due("the longest has 241 digits", most.toString().length(), 241);
        checks.dueMade("2^800 - 1", x -> Numbers.make(x, most), most, Numbers.ONE);
        checks.dueMade("-(2^800 - 1)", x -> Numbers.make(x, most.negate()), most.negate(), Numbers.ONE);
        checks.dueMade("-1 / (2^800 - 1)", x -> x.over(x.value(-1, 1), Numbers.make(x, most)), Numbers.ONE.negate(), most);
        KerfFractions x = new KerfFractions();
        int longest = Numbers.make(x, most);
        int below = x.over(x.value(1, 1), longest);
        checks.due("digit 0", x.digit(longest, 0, 0), most.toString().charAt(0) - '0');
        checks.due("digit 240", x.digit(longest, 0, 240), most.toString().charAt(240) - '0');
        checks.due("digit 240 of the denominator", x.digit(below, 1, 240), most.toString().charAt(240) - '0');
        for (int no : new int[] {241, 242, 243, 300, -1, Integer.MIN_VALUE, Integer.MAX_VALUE}) {
            checks.dueThrows("digit " + no, INDEX, () -> x.digit(longest, 0, no));
            checks.dueThrows("digit " + no + " of the denominator", INDEX, () -> x.digit(below, 1, no));
        }
    }

    private void noSuchDigit() {
        KerfFractions x = of(-1050, 37, 1000000000, 999999999);
        int[][] counts = {{4, 2}, {10, 9}};
        for (int a = 0; a < 2; a++) {
            for (int part = 0; part < 2; part++) {
                int value = a;
                int of = part;
                int count = counts[a][part];
                checks.due("the last digit", x.digit(a, part, count - 1), new int[][] {{0, 7}, {0, 9}}[a][part]);
                for (int no : new int[] {count, count + 1, -1, Integer.MIN_VALUE, Integer.MAX_VALUE}) {
                    checks.dueThrows("digit " + no + " of " + count, INDEX, () -> x.digit(value, of, no));
                }
            }
        }
    }

    private void otherParts() {
        KerfFractions x = of(-1050, 37);
        for (int part : NO_PARTS) {
            checks.dueThrows("part " + part, ARGUMENT, () -> x.digit(0, part, 0));
            checks.dueThrows("part " + part + " of 0", ARGUMENT, () -> x.digit(149, part, 0));
            checks.dueThrows("part " + part + ", before the digit", ARGUMENT, () -> x.digit(0, part, 4));
            checks.dueThrows("part " + part + ", before digit -1", ARGUMENT, () -> x.digit(0, part, -1));
            checks.dueThrows("part " + part + ", behind the value", INDEX, () -> x.digit(150, part, 0));
            checks.dueThrows("part " + part + ", behind value -1", INDEX, () -> x.digit(-1, part, -1));
        }
    }

    private void bits() {
        KerfFractions x = of(1, 1, -1, 1, 3, 4, LEAST, 1, 1, LEAST, GREATEST, 1, LEAST, GREATEST, 1L << 31, 1, (1L << 31) - 1, 1,
            1L << 62, 1, (1L << 62) - 1, 1, 6, 4);
        int[] want = {2, 2, 5, 65, 65, 64, 127, 33, 32, 64, 63, 4};
        for (int a = 0; a < want.length; a++) {
            checks.due("bits of value " + a, x.bits(a), want[a]);
        }
        for (int width = 1; width <= 800; width++) {
            KerfFractions y = new KerfFractions();
            int power = Numbers.make(y, Numbers.power(width - 1));
            checks.due("bits of 2^" + (width - 1), y.bits(power), width + 1);
            checks.due("bits of its reciprocal", y.bits(y.over(y.value(-1, 1), power)), width + 1);
        }
    }

    private void bitsOfZero() {
        KerfFractions x = of(0, 1, 0, LEAST, 1, 1, -1, 1);
        checks.due("0", x.bits(0), 0);
        checks.due("0 over the least long", x.bits(1), 0);
        checks.due("a sum that is 0", x.bits(x.add(2, 3)), 0);
        checks.due("a rounding that is 0", x.bits(x.round(2, 0, 2)), 0);
        checks.due("an end that is 0", x.root(0, 200), 0);
        checks.due("its bits", x.bits(x.end(0, 1)), 0);
        checks.due("not put", x.bits(149), 0);
    }

    private void signs() {
        KerfFractions x = of(1, GREATEST, -1, GREATEST, 0, -1, LEAST, LEAST, LEAST, 1, 1, LEAST, -1, LEAST, GREATEST, -1);
        int[] want = {1, -1, 0, 1, -1, -1, 1, -1};
        for (int a = 0; a < want.length; a++) {
            checks.due("sign of value " + a, x.sign(a), want[a]);
        }
        checks.due("of a sum that is 0", x.sign(x.add(0, 1)), 0);
        checks.due("of a rounding that is 0", x.sign(x.round(1, 1, 1)), 0);
        checks.due("of a rounding down from 0", x.sign(x.round(1, 0, 1)), -1);
        checks.due("not put", x.sign(149), 0);
    }
}
