/** Each promise of the document: ordinary inputs, the edges that it names, and wrong inputs. */
public final class PromiseTest {
    private static final Class<?> INDEX = ArrayIndexOutOfBoundsException.class;
    private static final Class<?> ARGUMENT = IllegalArgumentException.class;
    private static final Class<?> DIVISION = ArithmeticException.class;
    private static final int NONE = KerfFractions.NONE;
    private static final int[] NO_VALUES = {-1, 150, Integer.MIN_VALUE, Integer.MAX_VALUE};

    private final Checks checks = new Checks("PromiseTest");

    public static void main(String[] args) {
        PromiseTest test = new PromiseTest();
        test.promise1NewObject();
        test.promise2Value();
        test.promise3Add();
        test.promise4Times();
        test.promise5Over();
        test.promise6Order();
        test.promise7Root();
        test.promise7RootWhenNoneIsLeft();
        test.promise8End();
        test.promise9Round();
        test.promise9RoundWrongly();
        test.promise10Turn();
        test.promise11Weight();
        test.promise12ClearWeights();
        test.promise13Share();
        test.promise14Digit();
        test.promise15Bits();
        test.promise16Sign();
        test.valuesUsedUp();
        test.valuesTooLong();
        test.checks.end();
    }

    private void dueValue(String what, KerfFractions x, int number, int wantNumber, String want) {
        checks.due(what + ": number", number, wantNumber);
        if (number == wantNumber && number != NONE) {
            checks.due(what, Numbers.show(x, number), want);
        }
    }

    /** The next value, root and weight are the ones that they would have been before. */
    private void dueUnchanged(String what, KerfFractions x, int nextValue, int nextRoot) {
        checks.due(what + ": next value", x.value(0, 1), nextValue);
        checks.due(what + ": next root", x.root(nextValue, 0), nextRoot);
    }

    private static KerfFractions of(long... parts) {
        KerfFractions x = new KerfFractions();
        for (int i = 0; i + 1 < parts.length; i += 2) {
            x.value(parts[i], parts[i + 1]);
        }
        return x;
    }

    private void promise1NewObject() {
        KerfFractions x = new KerfFractions();
        for (int a = 0; a < 150; a++) {
            checks.due("new: sign of " + a, x.sign(a), 0);
        }
        dueValue("new: value 0 is used", x, x.add(0, 149), 0, "0/1");
        checks.due("new: value 149", Numbers.show(x, 149), "0/1");
        for (int root = 0; root < 40; root++) {
            checks.due("new: lower end of " + root, x.end(root, 0), 0);
            checks.due("new: upper end of " + root, x.end(root, 1), 0);
        }
        checks.dueThrows("new: all weights are 0", DIVISION, () -> x.share(1, 0));
        checks.due("new: root 0 is the next", x.root(0, 0), 0);
        x.weight(5);
        checks.due("new: weight 0 is the next", x.share(3, 0), 3);
        KerfFractions other = new KerfFractions();
        checks.due("another object is new too", other.value(1, 2), 0);
        checks.dueThrows("another object has no weights", DIVISION, () -> other.share(1, 0));
    }

    private void promise2Value() {
        KerfFractions x = new KerfFractions();
        dueValue("6 / 8", x, x.value(6, 8), 0, "3/4");
        dueValue("-6 / 8", x, x.value(-6, 8), 1, "-3/4");
        dueValue("6 / -8", x, x.value(6, -8), 2, "-3/4");
        dueValue("-6 / -8", x, x.value(-6, -8), 3, "3/4");
        dueValue("0 / -7", x, x.value(0, -7), 4, "0/1");
        dueValue("least / -1", x, x.value(Long.MIN_VALUE, -1), 5, "9223372036854775808/1");
        dueValue("least / greatest", x, x.value(Long.MIN_VALUE, Long.MAX_VALUE), 6, "-9223372036854775808/9223372036854775807");
        dueValue("1 / least", x, x.value(1, Long.MIN_VALUE), 7, "-1/9223372036854775808");
        dueValue("least / least", x, x.value(Long.MIN_VALUE, Long.MIN_VALUE), 8, "1/1");
        dueValue("greatest / 7", x, x.value(Long.MAX_VALUE, 7), 9, "1317624576693539401/1");
        dueValue("2^31 / 2^62", x, x.value(1L << 31, 1L << 62), 10, "1/2147483648");
        checks.dueThrows("1 / 0", DIVISION, () -> x.value(1, 0));
        checks.dueThrows("0 / 0", DIVISION, () -> x.value(0, 0));
        dueUnchanged("after 1 / 0", x, 11, 0);
    }

    private void promise3Add() {
        KerfFractions x = of(1, 2, 1, 3, -1, 2, -5, 6, 0, 1, Long.MAX_VALUE, 1);
        dueValue("1/2 + 1/3", x, x.add(0, 1), 6, "5/6");
        dueValue("1/2 + -1/2", x, x.add(0, 2), 7, "0/1");
        dueValue("1/2 + -5/6", x, x.add(0, 3), 8, "-1/3");
        dueValue("-5/6 + 1/2", x, x.add(3, 0), 9, "-1/3");
        dueValue("-5/6 + -1/2", x, x.add(3, 2), 10, "-4/3");
        dueValue("1/3 + -1/2", x, x.add(1, 2), 11, "-1/6");
        dueValue("-1/2 + 1/2", x, x.add(2, 0), 12, "0/1");
        dueValue("0 + -5/6", x, x.add(4, 3), 13, "-5/6");
        dueValue("-5/6 + 0", x, x.add(3, 4), 14, "-5/6");
        dueValue("0 + 0", x, x.add(4, 4), 15, "0/1");
        dueValue("a value to itself", x, x.add(0, 0), 16, "1/1");
        dueValue("beyond a long", x, x.add(5, 5), 17, "18446744073709551614/1");
        dueValue("the number that the sum gets", x, x.add(18, 0), 18, "1/2");
        for (int no : NO_VALUES) {
            checks.dueThrows("add " + no + " 0", INDEX, () -> x.add(no, 0));
            checks.dueThrows("add 0 " + no, INDEX, () -> x.add(0, no));
        }
        dueUnchanged("after wrong sums", x, 19, 0);
    }

    private void promise4Times() {
        KerfFractions x = of(2, 3, 3, 4, -3, 2, 0, 1, Long.MIN_VALUE, 1);
        dueValue("2/3 * 3/4", x, x.times(0, 1), 5, "1/2");
        dueValue("2/3 * -3/2", x, x.times(0, 2), 6, "-1/1");
        dueValue("-3/2 * -3/2", x, x.times(2, 2), 7, "9/4");
        dueValue("-3/2 * 0", x, x.times(2, 3), 8, "0/1");
        dueValue("0 * 2/3", x, x.times(3, 0), 9, "0/1");
        dueValue("2^63 * 2^63", x, x.times(4, 4), 10, "85070591730234615865843651857942052864/1");
        for (int no : NO_VALUES) {
            checks.dueThrows("times " + no + " 0", INDEX, () -> x.times(no, 0));
            checks.dueThrows("times 0 " + no, INDEX, () -> x.times(0, no));
        }
        dueUnchanged("after wrong products", x, 11, 0);
    }

    private void promise5Over() {
        KerfFractions x = of(2, 3, 4, 9, -5, 7, 0, 1);
        dueValue("2/3 / 4/9", x, x.over(0, 1), 4, "3/2");
        dueValue("2/3 / -5/7", x, x.over(0, 2), 5, "-14/15");
        dueValue("-5/7 / 2/3", x, x.over(2, 0), 6, "-15/14");
        dueValue("-5/7 / -5/7", x, x.over(2, 2), 7, "1/1");
        dueValue("0 / -5/7", x, x.over(3, 2), 8, "0/1");
        checks.dueThrows("2/3 / 0", DIVISION, () -> x.over(0, 3));
        checks.dueThrows("0 / 0", DIVISION, () -> x.over(3, 3));
        checks.dueThrows("by a value that none was put at", DIVISION, () -> x.over(0, 149));
        for (int no : NO_VALUES) {
            checks.dueThrows("over " + no + " 0", INDEX, () -> x.over(no, 0));
            checks.dueThrows("over 0 " + no, INDEX, () -> x.over(0, no));
            checks.dueThrows("over " + no + " by 0", INDEX, () -> x.over(no, 3));
        }
        dueUnchanged("after wrong quotients", x, 9, 0);
    }

    private void promise6Order() {
        // In order from the least on; the last two are the same value.
        KerfFractions x = of(Long.MIN_VALUE, 1, -3, 2, -4, 3, -1, 9, 0, 5, 1, 3, 333333333, 1000000000 - 1, 2, 3,
            Long.MAX_VALUE, Long.MAX_VALUE - 1, Long.MAX_VALUE - 1, Long.MAX_VALUE - 2, 5, 2, 10, 4);
        int[] order = {0, 1, 2, 3, 4, 5, 5, 7, 8, 9, 10, 10};
        for (int a = 0; a < order.length; a++) {
            for (int b = 0; b < order.length; b++) {
                checks.due("order " + a + " " + b, x.order(a, b), Integer.compare(order[a], order[b]));
            }
        }
        checks.due("with a value that none was put at", x.order(149, 3), 1);
        for (int no : NO_VALUES) {
            checks.dueThrows("order " + no + " 0", INDEX, () -> x.order(no, 0));
            checks.dueThrows("order 0 " + no, INDEX, () -> x.order(0, no));
        }
        dueUnchanged("order makes no value", x, 12, 0);
    }

    private void dueRoot(KerfFractions x, int a, int bits, int wantRoot, String lower, String upper) {
        int root = x.root(a, bits);
        checks.due("root " + a + " " + bits, root, wantRoot);
        checks.due("lower end of " + root, Numbers.show(x, x.end(root, 0)), lower);
        checks.due("upper end of " + root, Numbers.show(x, x.end(root, 1)), upper);
        checks.due("the upper end's number", x.end(root, 1), x.end(root, 0) + 1);
    }

    private void promise7Root() {
        KerfFractions x = of(2, 1, 9, 4, 1, 3, 0, 1, -1, 9, Long.MAX_VALUE, 1, 1, 4);
        dueRoot(x, 0, 0, 0, "1/1", "2/1");
        checks.due("the first end's number", x.end(0, 0), 7);
        dueRoot(x, 0, 10, 1, "181/128", "1449/1024");
        dueRoot(x, 1, 0, 2, "1/1", "2/1");
        dueRoot(x, 1, 1, 3, "3/2", "3/2");
        dueRoot(x, 1, 200, 4, "3/2", "3/2");
        dueRoot(x, 2, 0, 5, "0/1", "1/1");
        dueRoot(x, 2, 4, 6, "9/16", "5/8");
        dueRoot(x, 3, 200, 7, "0/1", "0/1");
        dueRoot(x, 5, 0, 8, "3037000499/1", "3037000500/1");
        dueRoot(x, 6, 0, 9, "0/1", "1/1");
        dueRoot(x, 149, 3, 10, "0/1", "0/1");
        dueRoot(x, 0, 200, 11,
            "1136276788042180458070828951474823657989790988021617205464301/803469022129495137770981046170581301261101496891396417650688",
            "2272553576084360916141657902949647315979581976043234410928603/1606938044258990275541962092341162602522202993782792835301376");
        checks.dueThrows("root of a value below 0", ARGUMENT, () -> x.root(4, 5));
        checks.dueThrows("root by -1 bits", ARGUMENT, () -> x.root(0, -1));
        checks.dueThrows("root by 201 bits", ARGUMENT, () -> x.root(0, 201));
        checks.dueThrows("root by many bits", ARGUMENT, () -> x.root(0, Integer.MAX_VALUE));
        checks.dueThrows("root by the least number of bits", ARGUMENT, () -> x.root(0, Integer.MIN_VALUE));
        for (int no : NO_VALUES) {
            checks.dueThrows("root " + no, INDEX, () -> x.root(no, 5));
            checks.dueThrows("root " + no + " by -1 bits", INDEX, () -> x.root(no, -1));
        }
        dueUnchanged("after wrong roots", x, 31, 12);
    }

    private void promise7RootWhenNoneIsLeft() {
        KerfFractions x = of(2, 1, -2, 1);
        for (int root = 0; root < 40; root++) {
            checks.due("root " + root + " of 40", x.root(0, root), root);
        }
        checks.due("the 41st root", x.root(0, 1), NONE);
        checks.dueThrows("below 0, behind the 40th root", ARGUMENT, () -> x.root(1, 1));
        checks.dueThrows("no value, behind the 40th root", INDEX, () -> x.root(150, 1));
        checks.due("the values behind 40 roots", x.value(1, 1), 82);
        checks.due("the last root's upper end", x.end(39, 1), 81);

        KerfFractions y = new KerfFractions();
        for (int i = 0; i < 147; i++) {
            y.value(i, 1);
        }
        checks.due("root with three values left", y.root(2, 1), 0);
        checks.due("root with one value left", y.root(2, 1), NONE);
        checks.due("its ends", y.end(1, 0) + y.end(1, 1), 0);
        checks.dueThrows("wrong bits with one value left", ARGUMENT, () -> y.root(2, 201));
        checks.due("the value that is left", y.value(7, 1), 149);
        checks.due("root with no value left", y.root(2, 1), NONE);

        KerfFractions z = new KerfFractions();
        for (int i = 0; i < 148; i++) {
            z.value(i, 1);
        }
        checks.due("root with two values left", z.root(3, 0), 0);
        checks.due("its upper end", z.end(0, 1), 149);
    }

    private void promise8End() {
        KerfFractions x = of(5, 1);
        x.root(0, 0);
        x.value(1, 1);
        x.root(0, 2);
        checks.due("lower end of 0", x.end(0, 0), 1);
        checks.due("upper end of 0", x.end(0, 1), 2);
        checks.due("lower end of 1", x.end(1, 0), 4);
        checks.due("upper end of 1", x.end(1, 1), 5);
        checks.due("lower end of 2, not used", x.end(2, 0), 0);
        checks.due("upper end of 39, not used", x.end(39, 1), 0);
        for (int no : new int[] {-1, 40, Integer.MIN_VALUE, Integer.MAX_VALUE}) {
            checks.dueThrows("end of root " + no, INDEX, () -> x.end(no, 0));
        }
        for (int no : new int[] {-1, 2, Integer.MIN_VALUE, Integer.MAX_VALUE}) {
            checks.dueThrows("end " + no + " of a root", INDEX, () -> x.end(0, no));
            checks.dueThrows("end " + no + " of the last root", INDEX, () -> x.end(39, no));
        }
        dueUnchanged("after wrong ends", x, 6, 2);
    }

    /** What a / b rounds to by each rule, in units of this length. */
    private void dueRounded(long a, long b, long unit, long down, long up, long nearestOrGreater, long nearestOrEven) {
        long[] want = {down, up, nearestOrGreater, nearestOrEven};
        for (int rule = 0; rule < 4; rule++) {
            KerfFractions x = of(a, b);
            dueValue(a + "/" + b + " by rule " + rule + " and unit " + unit, x, x.round(0, rule, unit), 1, want[rule] + "/1");
        }
    }

    private void promise9Round() {
        dueRounded(7, 2, 1, 3, 4, 4, 4);
        dueRounded(5, 2, 1, 2, 3, 3, 2);
        dueRounded(-5, 2, 1, -3, -2, -2, -2);
        dueRounded(-7, 2, 1, -4, -3, -3, -4);
        dueRounded(1, 2, 1, 0, 1, 1, 0);
        dueRounded(-1, 2, 1, -1, 0, 0, 0);
        dueRounded(7, 3, 1, 2, 3, 2, 2);
        dueRounded(8, 3, 1, 2, 3, 3, 3);
        dueRounded(-7, 3, 1, -3, -2, -2, -2);
        dueRounded(-8, 3, 1, -3, -2, -3, -3);
        dueRounded(6, 1, 1, 6, 6, 6, 6);
        dueRounded(-6, 1, 3, -6, -6, -6, -6);
        dueRounded(0, 1, 9, 0, 0, 0, 0);
        dueRounded(15, 1, 10, 10, 20, 20, 20);
        dueRounded(25, 1, 10, 20, 30, 30, 20);
        dueRounded(-25, 1, 10, -30, -20, -20, -20);
        dueRounded(24, 1, 7, 21, 28, 21, 21);
        dueRounded(1, Long.MAX_VALUE, 1, 0, 1, 0, 0);
        dueRounded(-1, Long.MAX_VALUE, 1, -1, 0, 0, 0);
        dueRounded(Long.MAX_VALUE, 2, Long.MAX_VALUE, 0, Long.MAX_VALUE, Long.MAX_VALUE, 0);
        dueRounded(Long.MIN_VALUE + 2, 1, Long.MAX_VALUE, -Long.MAX_VALUE, 0, -Long.MAX_VALUE, -Long.MAX_VALUE);
        KerfFractions x = of(1, 2);
        dueValue("a value that none was put at", x, x.round(149, 3, 5), 1, "0/1");
    }

    private void promise9RoundWrongly() {
        KerfFractions x = of(1, 2);
        for (int rule : new int[] {-1, 4, Integer.MIN_VALUE, Integer.MAX_VALUE}) {
            checks.dueThrows("rule " + rule, ARGUMENT, () -> x.round(0, rule, 1));
            checks.dueThrows("no value, rule " + rule, INDEX, () -> x.round(150, rule, 1));
        }
        for (long unit : new long[] {0, -1, Long.MIN_VALUE}) {
            checks.dueThrows("unit " + unit, ARGUMENT, () -> x.round(0, 0, unit));
            checks.dueThrows("no value, unit " + unit, INDEX, () -> x.round(-1, 0, unit));
        }
        for (int no : NO_VALUES) {
            checks.dueThrows("round " + no, INDEX, () -> x.round(no, 0, 1));
        }
        dueUnchanged("after wrong roundings", x, 1, 0);
    }

    private void promise10Turn() {
        // What 1 of each unit is in 0.01 mm.
        String[] inHundredths = {"1/1", "100/1", "100000/1", "2540/1", "30480/1", "635/3"};
        String[] hundredthInUnits = {"1/1", "1/100", "1/100000", "1/2540", "1/30480", "3/635"};
        for (int unit = 0; unit < 6; unit++) {
            KerfFractions x = of(1, 1);
            dueValue("1 of unit " + unit + " in 0.01 mm", x, x.turn(0, unit, 0), 1, inHundredths[unit]);
            dueValue("0.01 mm in unit " + unit, x, x.turn(0, 0, unit), 2, hundredthInUnits[unit]);
            dueValue("unit " + unit + " in itself", x, x.turn(0, unit, unit), 3, "1/1");
        }
        KerfFractions x = of(-5, 3, 0, 1);
        dueValue("feet in inches", x, x.turn(0, 4, 3), 2, "-20/1");
        dueValue("inches in lines", x, x.turn(0, 3, 5), 3, "-20/1");
        dueValue("lines in mm", x, x.turn(0, 5, 1), 4, "-127/36");
        dueValue("m in feet", x, x.turn(0, 2, 4), 5, "-6250/1143");
        dueValue("0 feet in m", x, x.turn(1, 4, 2), 6, "0/1");
        for (int no : NO_VALUES) {
            checks.dueThrows("turn " + no, INDEX, () -> x.turn(no, 0, 1));
        }
        for (int no : new int[] {-1, 6, Integer.MIN_VALUE, Integer.MAX_VALUE}) {
            checks.dueThrows("from unit " + no, INDEX, () -> x.turn(0, no, 0));
            checks.dueThrows("to unit " + no, INDEX, () -> x.turn(0, 0, no));
        }
        dueUnchanged("after wrong turns", x, 7, 0);
    }

    private void promise11Weight() {
        KerfFractions x = new KerfFractions();
        checks.due("weight -1", x.weight(-1), false);
        checks.due("weight 1000000001", x.weight(1000000001), false);
        checks.due("the least long as a weight", x.weight(Long.MIN_VALUE), false);
        checks.due("the greatest long as a weight", x.weight(Long.MAX_VALUE), false);
        checks.due("weight 3", x.weight(3), true);
        checks.due("it is weight 0", x.share(6, 0), 6);
        checks.due("weight 0", x.weight(0), true);
        checks.due("weight 2^32 + 1", x.weight((1L << 32) + 1), false);
        checks.due("weight 1", x.weight(1), true);
        checks.due("it is weight 2", x.share(4, 2), 1);
        for (int k = 3; k < 31; k++) {
            checks.due("weight " + k + " of 32", x.weight(0), true);
        }
        checks.due("the last weight", x.weight(1000000000), true);
        checks.due("it is weight 31", x.share(1000000000, 31), 999999996);
        checks.due("the 33rd weight", x.weight(1), false);
        checks.due("the 33rd weight, a wrong one", x.weight(-1), false);
        checks.due("the 33rd changed nothing", x.share(1000000000, 0), 3);
    }

    private void promise12ClearWeights() {
        KerfFractions x = of(1, 2);
        x.clearWeights();
        for (int k = 0; k < 32; k++) {
            x.weight(k + 1);
        }
        checks.due("no weight is left", x.weight(1), false);
        x.clearWeights();
        checks.dueThrows("all weights are 0", DIVISION, () -> x.share(0, 0));
        checks.due("a weight is left", x.weight(7), true);
        checks.due("it is weight 0", x.share(9, 0), 9);
        checks.due("the last weight is 0", x.share(9, 31), 0);
        checks.due("the values stay", Numbers.show(x, 0), "1/2");
        dueUnchanged("after clearing the weights", x, 1, 0);
    }

    private void dueShares(String what, long[] weights, long whole, long... want) {
        KerfFractions x = new KerfFractions();
        for (long weight : weights) {
            x.weight(weight);
        }
        long sum = 0;
        for (int k = 0; k < 32; k++) {
            sum += x.share(whole, k);
        }
        checks.due(what + ": the sum", sum, whole);
        for (int k = 0; k < want.length; k++) {
            checks.due(what + ": share " + k, x.share(whole, k), want[k]);
        }
    }

    private void promise13Share() {
        dueShares("10 by 1 1 1", new long[] {1, 1, 1}, 10, 4, 3, 3, 0);
        dueShares("11 by 1 1 1", new long[] {1, 1, 1}, 11, 4, 4, 3, 0);
        dueShares("7 by 1 2 3", new long[] {1, 2, 3}, 7, 1, 2, 4, 0);
        dueShares("10 by 5 2 2 3", new long[] {5, 2, 2, 3}, 10, 4, 2, 2, 2);
        dueShares("4 by 0 3 0 3 2", new long[] {0, 3, 0, 3, 2}, 4, 0, 2, 0, 1, 1);
        dueShares("1 by 1 2", new long[] {1, 2}, 1, 0, 1);
        dueShares("0 by 1 2", new long[] {1, 2}, 0, 0, 0);
        dueShares("the most of all", new long[] {1000000000, 1000000000, 999999999}, 1000000000, 333333334, 333333333, 333333333);
        dueShares("one weight", new long[] {0, 0, 9}, 1000000000, 0, 0, 1000000000);
        long[] alike = new long[32];
        java.util.Arrays.fill(alike, 1000000000);
        long[] want = new long[32];
        java.util.Arrays.fill(want, 31250000 - 1);
        java.util.Arrays.fill(want, 0, 31, 31250000);
        dueShares("32 alike", alike, 999999999, want);

        KerfFractions x = of(1, 2);
        for (int no : new int[] {-1, 32, Integer.MIN_VALUE, Integer.MAX_VALUE}) {
            checks.dueThrows("all wrong, weight " + no, INDEX, () -> x.share(-1, no));
            checks.dueThrows("weight " + no + " where all are 0", INDEX, () -> x.share(5, no));
        }
        for (long no : new long[] {-1, 1000000001, Long.MIN_VALUE, Long.MAX_VALUE}) {
            checks.dueThrows("whole " + no + " where all are 0", ARGUMENT, () -> x.share(no, 31));
        }
        checks.dueThrows("all weights are 0", DIVISION, () -> x.share(1000000000, 31));
        x.weight(0);
        checks.dueThrows("all told weights are 0", DIVISION, () -> x.share(0, 0));
        x.weight(2);
        for (long no : new long[] {-1, 1000000001, Long.MIN_VALUE, Long.MAX_VALUE}) {
            checks.dueThrows("whole " + no, ARGUMENT, () -> x.share(no, 1));
            checks.dueThrows("whole " + no + " and no weight", INDEX, () -> x.share(no, 32));
        }
        x.weight(4);
        checks.due("wrong shares told no weight", x.share(6, 2), 4);
        dueUnchanged("after wrong shares", x, 1, 0);
    }

    private void promise14Digit() {
        KerfFractions x = of(-1050, 37, 0, 1, Long.MIN_VALUE, 1, 1000000000, 999999999, 1, 1000000007);
        checks.due("digits", Numbers.show(x, 0), "-1050/37");
        checks.due("the highest digit", x.digit(0, 0, 0), 1);
        checks.due("the lowest digit", x.digit(0, 0, 3), 0);
        checks.due("of the denominator", x.digit(0, 1, 1), 7);
        checks.due("of 0", x.digit(1, 0, 0), 0);
        checks.due("of 0's denominator", x.digit(1, 1, 0), 1);
        checks.due("of 2^63", Numbers.show(x, 2), "-9223372036854775808/1");
        checks.due("of 10^9", Numbers.show(x, 3), "1000000000/999999999");
        checks.due("of 10^9 + 7", Numbers.show(x, 4), "1/1000000007");
        checks.due("of a value that none was put at", Numbers.show(x, 149), "0/1");
        checks.dueThrows("digit 4 of four", INDEX, () -> x.digit(0, 0, 4));
        checks.dueThrows("digit 2 of two", INDEX, () -> x.digit(0, 1, 2));
        checks.dueThrows("digit 1 of 0", INDEX, () -> x.digit(1, 0, 1));
        checks.dueThrows("digit -1", INDEX, () -> x.digit(0, 0, -1));
        checks.dueThrows("the least digit", INDEX, () -> x.digit(0, 0, Integer.MIN_VALUE));
        checks.dueThrows("the greatest digit", INDEX, () -> x.digit(0, 0, Integer.MAX_VALUE));
        for (int no : new int[] {-1, 2, Integer.MIN_VALUE, Integer.MAX_VALUE}) {
            checks.dueThrows("part " + no, ARGUMENT, () -> x.digit(0, no, 0));
            checks.dueThrows("part " + no + " before the digit", ARGUMENT, () -> x.digit(0, no, 4));
            checks.dueThrows("part " + no + " behind the value", INDEX, () -> x.digit(150, no, 0));
        }
        for (int no : NO_VALUES) {
            checks.dueThrows("digit of " + no, INDEX, () -> x.digit(no, 0, 0));
        }
        dueUnchanged("after wrong digits", x, 5, 0);
    }

    private void promise15Bits() {
        KerfFractions x = of(1, 1, 0, 7, 3, 4, -3, 4, Long.MIN_VALUE, 3, 1L << 31, (1L << 31) - 1, 1L << 62, (1L << 62) - 1);
        int[] want = {2, 0, 5, 5, 66, 63, 125};
        for (int a = 0; a < want.length; a++) {
            checks.due("bits of " + Numbers.show(x, a), x.bits(a), want[a]);
        }
        checks.due("bits of a value that none was put at", x.bits(149), 0);
        for (int no : NO_VALUES) {
            checks.dueThrows("bits of " + no, INDEX, () -> x.bits(no));
        }
        dueUnchanged("after wrong bits", x, 7, 0);
    }

    private void promise16Sign() {
        KerfFractions x = of(1, 9, -1, 9, 1, -9, -1, -9, 0, -9, Long.MIN_VALUE, Long.MIN_VALUE);
        int[] want = {1, -1, -1, 1, 0, 1};
        for (int a = 0; a < want.length; a++) {
            checks.due("sign of " + a, x.sign(a), want[a]);
        }
        checks.due("sign of a value that none was put at", x.sign(149), 0);
        for (int no : NO_VALUES) {
            checks.dueThrows("sign of " + no, INDEX, () -> x.sign(no));
        }
        dueUnchanged("after wrong signs", x, 6, 0);
    }

    private void valuesUsedUp() {
        KerfFractions x = new KerfFractions();
        for (int a = 0; a < 150; a++) {
            checks.due("value " + a + " of 150", x.value(a, 1), a);
        }
        checks.due("value when all are put", x.value(1, 2), NONE);
        checks.due("add when all are put", x.add(1, 2), NONE);
        checks.due("times when all are put", x.times(1, 2), NONE);
        checks.due("over when all are put", x.over(1, 2), NONE);
        checks.due("round when all are put", x.round(1, 0, 1), NONE);
        checks.due("turn when all are put", x.turn(1, 0, 1), NONE);
        checks.due("root when all are put", x.root(1, 1), NONE);
        checks.dueThrows("1 / 0 when all are put", DIVISION, () -> x.value(1, 0));
        checks.dueThrows("1 over 0 when all are put", DIVISION, () -> x.over(1, 0));
        checks.dueThrows("add 150 when all are put", INDEX, () -> x.add(150, 0));
        checks.dueThrows("round by rule 4 when all are put", ARGUMENT, () -> x.round(1, 4, 1));
        checks.dueThrows("turn to unit 6 when all are put", INDEX, () -> x.turn(1, 0, 6));
        checks.due("the first value stays", Numbers.show(x, 0), "0/1");
        checks.due("the last value stays", Numbers.show(x, 149), "149/1");
        checks.due("no root was used", x.end(0, 1), 0);
    }

    private void valuesTooLong() {
        KerfFractions x = of(1L << 50, 1, 2, 1, 1, 2, -1, 1, 1L << 49, 1, 3, 1, 1L << 32, 3);
        int half = 0;
        for (int i = 0; i < 3; i++) {
            half = x.times(half, half);
        }
        checks.due("2^400", x.bits(half), 402);
        int least = x.times(half, x.over(half, 1));
        checks.due("2^799 is put", least, 11);
        checks.due("2^799 has 800 bits", x.bits(least), 801);
        checks.due("2^800 as a product", x.times(half, half), NONE);
        checks.due("2^800 as a sum", x.add(least, least), NONE);
        checks.due("2^800 as a quotient", x.over(least, 2), NONE);
        checks.due("2^799 rounded up to threes", x.round(least, 1, 3), 12);
        checks.due("2^799 rounded up to times of 2^63 - 1", x.round(least, 1, Long.MAX_VALUE), 13);
        checks.due("2^799 feet in 0.01 mm", x.turn(least, 4, 0), NONE);
        checks.due("2^799 feet in inches", x.turn(least, 4, 3), NONE);
        checks.due("2^799 inches in feet", x.turn(least, 3, 4), 14);
        int below = x.over(x.value(-1, 1), least);
        checks.due("-1 / 2^799", x.bits(below), 801);
        checks.due("-1 / 2^800", x.times(below, 2), NONE);
        checks.due("1 / 2^1598", x.times(below, below), NONE);
        checks.due("2^799 / 2^799", Numbers.show(x, x.times(below, least)), "-1/1");
        checks.due("2^799 + 1 / 2^799", x.add(below, least), NONE);
        int most = x.add(least, x.add(least, 3));
        checks.due("2^800 - 1 is put", x.bits(most), 801);
        checks.due("2^800 - 1 + 1", x.add(most, x.value(1, 1)), NONE);
        checks.due("2^800 - 1 rounded up to twos", x.round(most, 1, 2), NONE);
        checks.due("-(2^800 - 1) rounded down to twos", x.round(x.times(most, 3), 0, 2), NONE);
        checks.due("no number was used up", x.value(1, 1), 22);
        int root = x.root(least, 200);
        checks.due("the root of 2^799 by 200 bits: lower end", x.bits(x.end(root, 0)), 797);
        checks.due("the root of 2^799 by 200 bits: upper end", x.bits(x.end(root, 1)), 801);
        checks.due("order of the longest", x.order(most, least), 1);
    }
}
