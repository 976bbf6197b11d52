import java.math.BigInteger;

/** The edges that the document's "Terms" name, sentence by sentence. */
public final class TermEdgesTest {
    private static final Class<?> INDEX = ArrayIndexOutOfBoundsException.class;
    private static final Class<?> ARGUMENT = IllegalArgumentException.class;
    private static final Class<?> DIVISION = ArithmeticException.class;
    private static final int NONE = KerfFractions.NONE;
    private static final BigInteger ONE = Numbers.ONE;

    private final Checks checks = new Checks("TermEdgesTest");

    public static void main(String[] args) {
        TermEdgesTest test = new TermEdgesTest();
        test.values();
        test.unitsAndRoots();
        test.weights();
        test.checks.end();
    }

    private void values() {
        checks.sentence("an object is used for at most 512 calls", this::call512);
        checks.sentence("VALUES have numbers 0 .. 149", this::numbersOfValues);
        checks.sentence("and are 0 at first, so all of them are there, and may be used", this::valuesNotPut);
        checks.sentence("a call may use the number that it puts its own value at", this::valuePutAtItsOwnNumber);
        checks.sentence("puts it at the least number that none was put at before, and answers it", this::leastNumber);
        checks.sentence("NONE, if all were: the 150th value and the one after it", this::value150);
        checks.sentence("more than 800 bits: the numerator", this::numeratorOf800And801);
        checks.sentence("more than 800 bits: the denominator", this::denominatorOf800And801);
        checks.sentence("either of the two, both within", this::bothOf800);
        checks.sentence("without a common divisor", this::commonDivisorOutBefore800);
        checks.sentence("the denominator above 0", this::denominatorAbove0);
        checks.sentence("then no number is used up", this::noNumberUsedUp);
        checks.sentence("FLOOR of a value is the greatest whole number that is not more", this::floor);
    }

    private void unitsAndRoots() {
        checks.sentence("UNITS are 0 .. 5", this::numbersOfUnits);
        checks.sentence("0.01 mm, mm, m, inch, foot, line", this::lengthsOfUnits);
        checks.sentence("ROOTS have numbers 0 .. 39", this::numbersOfRoots);
        checks.sentence("and two ENDS", this::twoEnds);
        checks.sentence("of a root that was not used yet number 0, both", this::endsNotUsed);
        checks.sentence("the lower one is s / 2^b", this::lowerEnd);
        checks.sentence("the upper one the same if that is the root itself", this::upperEndOfAnExactRoot);
        checks.sentence("else (s + 1) / 2^b", this::upperEndElse);
    }

    private void weights() {
        checks.sentence("WEIGHTS 0 .. 31", this::numbersOfWeights);
        checks.sentence("are 0 at first; those that were not told stay so", this::weightsNotTold);
        checks.sentence("and have shares like others", this::sharesOfWeightsNotTold);
        checks.sentence("each gets FLOOR(whole * weight / the sum of all)", this::floorOfShares);
        checks.sentence("what is left goes, one each, to those with the greatest rests", this::greatestRests);
        checks.sentence("of the same the lesser number first", this::sameRests);
        checks.sentence("shares sum to the whole", this::sumOfShares);
    }

    private static KerfFractions of(long... parts) {
        KerfFractions x = new KerfFractions();
        for (int i = 0; i + 1 < parts.length; i += 2) {
            x.value(parts[i], parts[i + 1]);
        }
        return x;
    }

    /** The values 1, 2, 3 and so on, so many of them. */
    private static KerfFractions counted(int many) {
        KerfFractions x = new KerfFractions();
        for (int i = 1; i <= many; i++) {
            x.value(i, 1);
        }
        return x;
    }

    private void call512() {
        KerfFractions x = of(7, 3);
        for (int call = 2; call <= 511; call++) {
            x.value(call, 7);
        }
        checks.due("call 512", x.bits(0), 5);
        KerfFractions y = new KerfFractions();
        for (int call = 1; call <= 511; call++) {
            y.clearWeights();
        }
        checks.due("value as call 512", y.value(1, 2), 0);
    }

    private interface OnValue {
        long call(KerfFractions x, int a);
    }

    // Every place where a call of the face takes a value's number; the other one is 0.
    private static final String[] PLACES = {"add(a, 0)", "add(0, a)", "times(a, 0)", "times(0, a)", "over(a, 0)", "over(0, a)",
        "order(a, 0)", "order(0, a)", "root(a, 1)", "round(a, 0, 1)", "turn(a, 0, 1)", "digit(a, 0, 0)", "digit(a, 1, 0)",
        "bits(a)", "sign(a)"};
    private static final OnValue[] CALLS = {(x, a) -> x.add(a, 0), (x, a) -> x.add(0, a), (x, a) -> x.times(a, 0),
        (x, a) -> x.times(0, a), (x, a) -> x.over(a, 0), (x, a) -> x.over(0, a), (x, a) -> x.order(a, 0),
        (x, a) -> x.order(0, a), (x, a) -> x.root(a, 1), (x, a) -> x.round(a, 0, 1), (x, a) -> x.turn(a, 0, 1),
        (x, a) -> x.digit(a, 0, 0), (x, a) -> x.digit(a, 1, 0), (x, a) -> x.bits(a), (x, a) -> x.sign(a)};

    private void numbersOfValues() {
        // Value 0 is 1 and value 149 is 150; all are put, so that the making calls answer NONE.
        long[] ofFirst = {NONE, NONE, NONE, NONE, NONE, NONE, 0, 0, NONE, NONE, NONE, 1, 1, 2, 1};
        long[] ofLast = {NONE, NONE, NONE, NONE, NONE, NONE, 1, -1, NONE, NONE, NONE, 1, 1, 9, 1};
        for (int i = 0; i < CALLS.length; i++) {
            OnValue call = CALLS[i];
            KerfFractions x = counted(150);
            checks.due(PLACES[i] + " of 0", call.call(x, 0), ofFirst[i]);
            checks.due(PLACES[i] + " of 149", call.call(x, 149), ofLast[i]);
            for (int no : new int[] {-1, 150, Integer.MIN_VALUE, Integer.MAX_VALUE}) {
                checks.dueThrows(PLACES[i] + " of " + no, INDEX, () -> call.call(x, no));
            }
        }
    }

    private void dueNext(String what, KerfFractions x, int number, int wantNumber, String want) {
        checks.due(what + ": number", number, wantNumber);
        if (number == wantNumber) {
            checks.due(what, Numbers.show(x, number), want);
        }
    }

    private void valuesNotPut() {
        KerfFractions x = of(7, 2);
        dueNext("7/2 + value 149", x, x.add(0, 149), 1, "7/2");
        dueNext("value 149 + 7/2", x, x.add(149, 0), 2, "7/2");
        dueNext("7/2 * value 149", x, x.times(0, 149), 3, "0/1");
        dueNext("value 149 / 7/2", x, x.over(149, 0), 4, "0/1");
        checks.dueThrows("7/2 / value 149", DIVISION, () -> x.over(0, 149));
        checks.dueThrows("value 148 / value 149", DIVISION, () -> x.over(148, 149));
        checks.due("order of value 149 and 7/2", x.order(149, 0), -1);
        checks.due("order of 7/2 and value 149", x.order(0, 149), 1);
        checks.due("order of values 149 and 148", x.order(149, 148), 0);
        checks.due("root of value 149", x.root(149, 200), 0);
        dueNext("its lower end", x, x.end(0, 0), 5, "0/1");
        dueNext("its upper end", x, x.end(0, 1), 6, "0/1");
        for (int rule = 0; rule < 4; rule++) {
            dueNext("value 149 rounded by rule " + rule, x, x.round(149, rule, Long.MAX_VALUE), 7 + rule, "0/1");
        }
        dueNext("value 149 turned", x, x.turn(149, 5, 2), 11, "0/1");
        checks.due("digit of value 149", x.digit(149, 0, 0), 0);
        checks.due("digit of value 149's denominator", x.digit(149, 1, 0), 1);
        checks.due("bits of value 149", x.bits(149), 0);
        checks.due("sign of value 149", x.sign(149), 0);
    }

    private void valuePutAtItsOwnNumber() {
        KerfFractions x = new KerfFractions();
        dueNext("value 0 + value 0 at 0", x, x.add(0, 0), 0, "0/1");
        x.value(9, 4);
        dueNext("9/4 + value 2 at 2", x, x.add(1, 2), 2, "9/4");
        dueNext("value 3 * 9/4 at 3", x, x.times(3, 1), 3, "0/1");
        dueNext("value 4 / 9/4 at 4", x, x.over(4, 1), 4, "0/1");
        dueNext("value 5 rounded up at 5", x, x.round(5, 1, 3), 5, "0/1");
        dueNext("value 6 turned at 6", x, x.turn(6, 0, 1), 6, "0/1");
        x.root(7, 3);
        dueNext("root of value 7 at 7 and 8", x, x.end(0, 1), 8, "0/1");
    }

    private void leastNumber() {
        KerfFractions x = new KerfFractions();
        checks.due("value", x.value(9, 4), 0);
        checks.due("add", x.add(0, 0), 1);
        checks.due("times", x.times(0, 1), 2);
        checks.dueThrows("1 / 0", DIVISION, () -> x.value(1, 0));
        checks.due("over", x.over(0, 1), 3);
        checks.dueThrows("by value 149", DIVISION, () -> x.over(0, 149));
        checks.due("root", x.root(0, 3), 0);
        checks.due("its lower end", x.end(0, 0), 4);
        checks.due("its upper end", x.end(0, 1), 5);
        checks.due("round", x.round(0, 0, 2), 6);
        checks.due("order makes none", x.order(0, 1) + x.sign(0) + x.bits(0) + x.digit(0, 0, 0), 16);
        checks.due("turn", x.turn(0, 0, 1), 7);
        checks.due("the same value again", x.value(9, 4), 8);
        checks.due("0", x.value(0, 3), 9);
        checks.due("behind 0", x.value(1, 3), 10);
    }

    private static final String[] MAKERS = {"value(5, 3)", "add(1, 2)", "times(1, 2)", "over(1, 2)", "round(1, 0, 1)", "turn(1, 4, 3)"};
    private static final Checks.Recipe[] MAKING = {x -> x.value(5, 3), x -> x.add(1, 2), x -> x.times(1, 2), x -> x.over(1, 2),
        x -> x.round(1, 0, 1), x -> x.turn(1, 4, 3)};

    private void value150() {
        String[] made = {"5/3", "5/1", "6/1", "2/3", "2/1", "24/1"};
        for (int i = 0; i < MAKING.length; i++) {
            KerfFractions x = counted(148);
            checks.due("value 149 of 150 by " + MAKERS[i], MAKING[i].make(x), 148);
            dueNext("value 150 of 150 by " + MAKERS[i], x, MAKING[i].make(x), 149, made[i]);
            checks.due("the one after it by " + MAKERS[i] + ", which is NONE", MAKING[i].make(x), -1);
            checks.due("and once more by " + MAKERS[i], MAKING[i].make(x), NONE);
            checks.due("value 0 stays", Numbers.show(x, 0), "1/1");
            checks.due("value 149 stays", Numbers.show(x, 149), made[i]);
        }
    }

    /** What an operation, 0 sum, 1 product, 2 quotient, makes of a/b and c/d. */
    private static int operate(KerfFractions x, int operation, BigInteger[] n) {
        int first = Numbers.make(x, n[0], n[1]);
        int second = Numbers.make(x, n[2], n[3]);
        return switch (operation) {
            case 0 -> x.add(first, second);
            case 1 -> x.times(first, second);
            default -> x.over(first, second);
        };
    }

    private static final String[] OPERATIONS = {"sum", "product", "quotient"};

    private void dueWithin(int operation, BigInteger... n) {
        BigInteger[] parts = {n[0].multiply(n[3]), n[2].multiply(n[1]), n[1].multiply(n[3])};
        BigInteger top = switch (operation) {
            case 0 -> parts[0].add(parts[1]);
            case 1 -> n[0].multiply(n[2]);
            default -> parts[0];
        };
        BigInteger bottom = operation == 2 ? parts[1] : parts[2];
        checks.dueMade(OPERATIONS[operation] + " of " + n[0] + "/" + n[1] + " and " + n[2] + "/" + n[3],
            x -> operate(x, operation, n), bottom.signum() < 0 ? top.negate() : top, bottom.abs());
    }

    private void dueBeyond(int operation, BigInteger... n) {
        KerfFractions x = new KerfFractions();
        checks.due(OPERATIONS[operation] + " of " + n[0] + "/" + n[1] + " and " + n[2] + "/" + n[3], operate(x, operation, n), NONE);
    }

    private void dueMadeOf(String what, BigInteger top, BigInteger bottom, OnValue last, BigInteger wantTop, BigInteger wantBottom) {
        checks.dueMade(what, x -> (int) last.call(x, Numbers.make(x, top, bottom)), wantTop, wantBottom);
    }

    private void dueNoneOf(String what, BigInteger top, BigInteger bottom, OnValue last) {
        KerfFractions x = new KerfFractions();
        int a = Numbers.make(x, top, bottom);
        checks.due(what + ": the number it is made of", a != NONE, true);
        checks.due(what, last.call(x, a), NONE);
    }

    private void numeratorOf800And801() {
        BigInteger two = BigInteger.TWO;
        BigInteger three = BigInteger.valueOf(3);
        BigInteger most = Numbers.ones(800);
        BigInteger high = Numbers.power(799);
        for (BigInteger side : new BigInteger[] {ONE, ONE.negate()}) {
            dueWithin(0, most.subtract(ONE).multiply(side), ONE, side, ONE);
            dueBeyond(0, most.multiply(side), ONE, side, ONE);
            dueWithin(1, Numbers.power(400).multiply(side), ONE, Numbers.power(399), ONE);
            dueBeyond(1, Numbers.power(400).multiply(side), ONE, Numbers.power(400), ONE);
            dueWithin(1, high.multiply(side), three, ONE, two);
            dueBeyond(1, most.multiply(side), ONE, two, BigInteger.valueOf(7));
            dueWithin(2, Numbers.power(400).multiply(side), ONE, ONE, Numbers.power(399));
            dueBeyond(2, Numbers.power(400), ONE, side, Numbers.power(400));
            // 2^800 - 2 is a whole number of twos, and 2^800 - 1 lies between two of them.
            BigInteger twos = most.subtract(ONE).multiply(side);
            int away = side.signum() > 0 ? 1 : 0;
            dueMadeOf("twos to twos", twos, ONE, (x, a) -> x.round(a, away, 2), twos, ONE);
            dueMadeOf("towards 0 to twos", most.multiply(side), ONE, (x, a) -> x.round(a, 1 - away, 2), twos, ONE);
            dueNoneOf("away from 0 to twos", most.multiply(side), ONE, (x, a) -> x.round(a, away, 2));
            BigInteger feet = Numbers.power(796).multiply(side);
            dueMadeOf("feet in inches", feet, ONE, (x, a) -> x.turn(a, 4, 3), feet.multiply(big(12)), ONE);
            dueNoneOf("feet in inches, too many", feet.multiply(two), ONE, (x, a) -> x.turn(a, 4, 3));
        }
        dueNoneOf("the nearest of two twos is too great", most, ONE, (x, a) -> x.round(a, 2, 2));
        dueNoneOf("the even one of two twos is too great", most, ONE, (x, a) -> x.round(a, 3, 2));
        checks.due("a numerator of 800 bits", of800().bits(MOST), 801);
    }

    // What of800() puts at these numbers: -1, 2^800 - 1 and 1/3.
    private static final int MINUS = 14;
    private static final int MOST = 16;
    private static final int THIRD = 17;

    private static KerfFractions of800() {
        KerfFractions x = new KerfFractions();
        int high = Numbers.make(x, Numbers.power(799));
        x.add(high, x.add(high, x.value(-1, 1)));
        x.value(1, 3);
        return x;
    }

    private void denominatorOf800And801() {
        BigInteger three = BigInteger.valueOf(3);
        BigInteger most = Numbers.ones(800);
        BigInteger high = Numbers.power(799);
        for (BigInteger side : new BigInteger[] {ONE, ONE.negate()}) {
            dueWithin(0, side, most, BigInteger.ZERO, ONE);
            dueWithin(0, side, Numbers.power(400), side, Numbers.power(799));
            // 3 + 2^799 has 800 bits, so that the denominator 3 * 2^799 alone is too long.
            dueBeyond(0, side, high, side, three);
            dueWithin(1, side, Numbers.power(400), ONE, Numbers.power(399));
            dueBeyond(1, side, Numbers.power(400), ONE, Numbers.power(400));
            dueBeyond(1, side, most, ONE, three);
            dueWithin(2, side, Numbers.power(400), Numbers.power(399), ONE);
            dueBeyond(2, ONE, Numbers.power(400), side.multiply(Numbers.power(400)), ONE);
            dueMadeOf("lines in inches", side, Numbers.power(796), (x, a) -> x.turn(a, 5, 3), side, three.multiply(Numbers.power(798)));
            dueNoneOf("lines in inches, too short", side, Numbers.power(797), (x, a) -> x.turn(a, 5, 3));
        }
        KerfFractions x = of800();
        checks.due("a denominator of 800 bits", x.bits(x.over(MINUS, MOST)), 801);
    }

    private void bothOf800() {
        BigInteger most = Numbers.ones(800);
        BigInteger high = Numbers.power(799);
        dueWithin(2, high, ONE, most, ONE);
        dueWithin(2, most.negate(), ONE, high, ONE);
        dueWithin(1, most, ONE, ONE, high);
        KerfFractions x = of800();
        checks.due("1600 bits together", x.bits(x.over(MOST, x.add(MOST, MINUS))), 1600);
        dueBeyond(2, high, ONE, most, BigInteger.TWO);
        dueBeyond(2, high, BigInteger.valueOf(3), most, ONE);
    }

    private void commonDivisorOutBefore800() {
        BigInteger most = Numbers.ones(800);
        BigInteger high = Numbers.power(799);
        BigInteger three = BigInteger.valueOf(3);
        dueWithin(0, ONE, high, ONE, high);
        dueWithin(0, most, high, most.negate(), high);
        dueWithin(1, high, three, three, high);
        dueWithin(1, most, high, high.negate(), most);
        dueWithin(2, most, high, most, high);
        dueWithin(2, high, most, high.negate(), most);
        dueMadeOf("m in 0.01 mm", ONE, Numbers.power(799), (x, a) -> x.turn(a, 2, 0), BigInteger.valueOf(3125), Numbers.power(794));
        dueMadeOf("0.01 mm in m", Numbers.power(799), ONE, (x, a) -> x.turn(a, 0, 2), Numbers.power(794), BigInteger.valueOf(3125));
        dueMadeOf("feet in feet", most, high, (x, a) -> x.turn(a, 4, 4), most, high);
    }

    private void denominatorAbove0() {
        KerfFractions x = of(1, -2, -1, -2, 0, -2, Long.MIN_VALUE, Long.MIN_VALUE, Long.MAX_VALUE, Long.MIN_VALUE);
        String[] want = {"-1/2", "1/2", "0/1", "1/1", "-9223372036854775807/9223372036854775808"};
        for (int a = 0; a < want.length; a++) {
            checks.due("value " + a, Numbers.show(x, a), want[a]);
        }
        dueNext("1/2 over -1/2", x, x.over(1, 0), 5, "-1/1");
        dueNext("-1/2 over -1/2", x, x.over(0, 0), 6, "1/1");
        dueNext("0 over -1/2", x, x.over(2, 0), 7, "0/1");
    }

    private void noNumberUsedUp() {
        Checks.Recipe[] tooLong = {x -> x.add(MOST, MOST), x -> x.add(MOST, THIRD), x -> x.times(MOST, MOST),
            x -> x.over(THIRD, MOST), x -> x.round(MOST, 1, 2), x -> x.turn(MOST, 1, 0)};
        for (int i = 0; i < tooLong.length; i++) {
            KerfFractions x = of800();
            checks.due("too long, call " + i, tooLong[i].make(x), NONE);
            checks.due("the next value's sign, call " + i, x.sign(18), 0);
            dueNext("the next value, call " + i, x, x.value(5, 7), 18, "5/7");
            checks.due("too long again, call " + i, tooLong[i].make(x), NONE);
            dueNext("the one behind it, call " + i, x, x.value(7, 5), 19, "7/5");
            checks.due("the next root, call " + i, x.root(18, 0), 0);
            checks.due("its lower end, call " + i, x.end(0, 0), 20);
        }
    }

    private void floor() {
        long[][] floors = {{7, 2, 3}, {-7, 2, -4}, {-1, Long.MAX_VALUE, -1}, {1, Long.MAX_VALUE, 0}, {-6, 2, -3}, {6, 2, 3},
            {0, 1, 0}, {Long.MIN_VALUE, 1, Long.MIN_VALUE}, {Long.MAX_VALUE, 1, Long.MAX_VALUE}, {Long.MIN_VALUE, Long.MAX_VALUE, -2},
            {Long.MAX_VALUE, Long.MIN_VALUE, -1}};
        for (long[] f : floors) {
            KerfFractions x = of(f[0], f[1]);
            dueNext("floor of " + f[0] + "/" + f[1], x, x.round(0, 0, 1), 1, f[2] + "/1");
        }
    }

    private void numbersOfUnits() {
        for (int unit = 0; unit < 6; unit++) {
            KerfFractions x = of(1, 3);
            checks.due("from unit " + unit, x.turn(0, unit, 0), 1);
            checks.due("to unit " + unit, x.turn(0, 5, unit), 2);
        }
        KerfFractions x = of(1, 3);
        for (int no : new int[] {-1, 6, Integer.MIN_VALUE, Integer.MAX_VALUE}) {
            checks.dueThrows("from unit " + no, INDEX, () -> x.turn(0, no, 5));
            checks.dueThrows("to unit " + no, INDEX, () -> x.turn(0, 5, no));
            checks.dueThrows("from and to unit " + no, INDEX, () -> x.turn(0, no, no));
        }
    }

    private void lengthsOfUnits() {
        // Row from, column to: what 1 of the one is in the other.
        String[][] want = {
            {"1/1", "1/100", "1/100000", "1/2540", "1/30480", "3/635"},
            {"100/1", "1/1", "1/1000", "5/127", "5/1524", "60/127"},
            {"100000/1", "1000/1", "1/1", "5000/127", "1250/381", "60000/127"},
            {"2540/1", "127/5", "127/5000", "1/1", "1/12", "12/1"},
            {"30480/1", "1524/5", "381/1250", "12/1", "1/1", "144/1"},
            {"635/3", "127/60", "127/60000", "1/12", "1/144", "1/1"},
        };
        for (int from = 0; from < 6; from++) {
            for (int to = 0; to < 6; to++) {
                KerfFractions x = of(1, 1, -1, 1);
                dueNext("1 of unit " + from + " in unit " + to, x, x.turn(0, from, to), 2, want[from][to]);
                dueNext("-1 of unit " + from + " in unit " + to, x, x.turn(1, from, to), 3, "-" + want[from][to]);
            }
        }
    }

    private void numbersOfRoots() {
        KerfFractions x = of(3, 1);
        for (int root = 0; root < 40; root++) {
            checks.due("root " + root, x.root(0, root), root);
            checks.due("its upper end", x.end(root, 1), 2 * root + 2);
        }
        checks.due("end of root 0", x.end(0, 0), 1);
        checks.due("end of root 39", x.end(39, 0), 79);
        for (int no : new int[] {-1, 40, Integer.MIN_VALUE, Integer.MAX_VALUE}) {
            checks.dueThrows("lower end of root " + no, INDEX, () -> x.end(no, 0));
            checks.dueThrows("upper end of root " + no, INDEX, () -> x.end(no, 1));
        }
    }

    private void twoEnds() {
        KerfFractions x = of(3, 1);
        x.root(0, 2);
        checks.due("the lower one", x.end(0, 0), 1);
        checks.due("the upper one", x.end(0, 1), 2);
        for (int root : new int[] {0, 1, 39}) {
            for (int no : new int[] {-1, 2, Integer.MIN_VALUE, Integer.MAX_VALUE}) {
                checks.dueThrows("end " + no + " of root " + root, INDEX, () -> x.end(root, no));
            }
        }
    }

    private void endsNotUsed() {
        KerfFractions x = of(3, 1, 5, 1);
        dueEndsFrom(x, 0);
        x.root(1, 4);
        dueEndsFrom(x, 1);
        checks.dueThrows("a root that is refused", ARGUMENT, () -> x.root(1, 201));
        dueEndsFrom(x, 1);
    }

    /** From this root on none was used: both ends are number 0. */
    private void dueEndsFrom(KerfFractions x, int first) {
        for (int root = first; root < 40; root++) {
            checks.due("lower end of " + root, x.end(root, 0), 0);
            checks.due("upper end of " + root, x.end(root, 1), 0);
        }
    }

    private void dueEnds(BigInteger top, BigInteger bottom, int bits, BigInteger lower, BigInteger upper) {
        String what = "root of " + top + "/" + bottom + " by " + bits + " bits";
        checks.dueMade(what + ", lower", x -> x.end(x.root(Numbers.make(x, top, bottom), bits), 0), lower, Numbers.power(bits));
        checks.dueMade(what + ", upper", x -> x.end(x.root(Numbers.make(x, top, bottom), bits), 1), upper, Numbers.power(bits));
    }

    private static BigInteger big(long number) {
        return BigInteger.valueOf(number);
    }

    private void lowerEnd() {
        dueEnds(big(2), ONE, 0, big(1), big(2));
        dueEnds(big(2), ONE, 1, big(2), big(3));
        dueEnds(big(2), ONE, 4, big(22), big(23));
        dueEnds(big(3), big(4), 0, big(0), big(1));
        // The common divisor of s and 2^b is out: 181/128 where s is 1448 and b is 10.
        dueEnds(big(2), ONE, 10, big(1448), big(1449));
        dueEnds(ONE, Numbers.ones(800), 200, big(0), big(1));
        BigInteger most = Numbers.ones(800);
        BigInteger s = most.shiftLeft(400).sqrt();
        dueEnds(most, ONE, 200, s, s.add(ONE));
        BigInteger t = Numbers.power(799).shiftLeft(400).divide(big(3)).sqrt();
        dueEnds(Numbers.power(799), big(3), 200, t, t.add(ONE));
    }

    private void upperEndOfAnExactRoot() {
        dueEnds(big(0), ONE, 0, big(0), big(0));
        dueEnds(big(0), ONE, 200, big(0), big(0));
        dueEnds(big(1), ONE, 0, big(1), big(1));
        dueEnds(big(4), ONE, 200, Numbers.power(201), Numbers.power(201));
        dueEnds(big(9), big(4), 1, big(3), big(3));
        BigInteger greatest = Numbers.ones(400);
        dueEnds(greatest.multiply(greatest), ONE, 0, greatest, greatest);
        dueEnds(greatest.multiply(greatest), ONE, 200, greatest.shiftLeft(200), greatest.shiftLeft(200));
        dueEnds(ONE, Numbers.power(400), 200, ONE, ONE);
        KerfFractions x = of(9, 4);
        x.root(0, 1);
        checks.due("they are two values, the lower one", x.end(0, 0), 1);
        checks.due("and the upper one", x.end(0, 1), 2);
    }

    private void upperEndElse() {
        dueEnds(big(9), big(4), 0, big(1), big(2));
        // The root 1/3 is exact, but no number of so many bits is it.
        dueEnds(ONE, big(9), 0, big(0), big(1));
        dueEnds(ONE, big(9), 200, Numbers.power(200).divide(big(3)), Numbers.power(200).divide(big(3)).add(ONE));
        dueEnds(ONE, Numbers.power(400), 199, big(0), big(1));
        dueEnds(ONE, Numbers.power(402), 200, big(0), big(1));
        dueEnds(big(Long.MAX_VALUE), ONE, 0, big(3037000499L), big(3037000500L));
        BigInteger greatest = Numbers.ones(400);
        BigInteger square = greatest.multiply(greatest);
        dueEnds(square.add(ONE), ONE, 0, greatest, greatest.add(ONE));
        dueEnds(square.subtract(ONE), ONE, 0, greatest.subtract(ONE), greatest);
    }

    private void numbersOfWeights() {
        KerfFractions x = new KerfFractions();
        for (int k = 0; k < 32; k++) {
            checks.due("weight " + k + " is there", x.weight(k == 0 || k == 31 ? 1 : 0), true);
        }
        checks.due("weight 32 is not", x.weight(1), false);
        checks.due("share of weight 0", x.share(10, 0), 5);
        checks.due("share of weight 31", x.share(10, 31), 5);
        for (int no : new int[] {-1, 32, Integer.MIN_VALUE, Integer.MAX_VALUE}) {
            checks.dueThrows("share of weight " + no, INDEX, () -> x.share(10, no));
        }
    }

    private void weightsNotTold() {
        KerfFractions x = new KerfFractions();
        checks.dueThrows("none told", DIVISION, () -> x.share(10, 31));
        x.weight(7);
        checks.due("the one that was told has all", x.share(10, 0), 10);
        for (int k = 1; k < 32; k++) {
            checks.due("share of weight " + k, x.share(10, k), 0);
        }
    }

    private void sharesOfWeightsNotTold() {
        // Two are left over here: rests of 0 get none, though their numbers are less or their weights were not told.
        KerfFractions x = new KerfFractions();
        for (long w : new long[] {0, 3, 3, 3}) {
            x.weight(w);
        }
        long[] want = {0, 4, 4, 3};
        for (int k = 0; k < 32; k++) {
            checks.due("share of weight " + k, x.share(11, k), k < want.length ? want[k] : 0);
        }
        checks.due("share of 0 of weight 31", x.share(0, 31), 0);
    }

    private void dueShares(long whole, long[] weights, long... want) {
        KerfFractions x = new KerfFractions();
        for (long w : weights) {
            x.weight(w);
        }
        for (int k = 0; k < want.length; k++) {
            checks.due("share " + k + " of " + whole, x.share(whole, k), want[k]);
        }
    }

    private void floorOfShares() {
        dueShares(100, new long[] {1, 2, 1}, 25, 50, 25, 0);
        dueShares(0, new long[] {1, 2, 1}, 0, 0, 0, 0);
        dueShares(1000000000, new long[] {1000000000}, 1000000000, 0);
        dueShares(1000000000, new long[] {1, 1000000000}, 1, 999999999, 0);
        dueShares(1000000000, new long[] {1000000000, 1000000000}, 500000000, 500000000);
        dueShares(999999999, new long[] {0, 1000000000, 0}, 0, 999999999, 0);
    }

    private void greatestRests() {
        // The rests are 6, 12 and 18 of 20, and two are left.
        dueShares(2, new long[] {3, 6, 9, 2}, 0, 1, 1, 0);
        dueShares(7, new long[] {1, 2, 3}, 1, 2, 4);
        // The rests are 4, 1 and 2 of 7: the one that is left goes to the least weight.
        dueShares(4, new long[] {1, 2, 4}, 1, 1, 2);
        // The rests are 3, 6 and 5 of 7.
        dueShares(3, new long[] {1, 2, 4}, 0, 1, 2);
        dueShares(10, new long[] {1, 2, 4}, 1, 3, 6);
        dueShares(5, new long[] {1, 6}, 1, 4);
        dueShares(1, new long[] {1, 1000000000}, 0, 1);
    }

    private void sameRests() {
        dueShares(1, new long[] {1, 1}, 1, 0);
        dueShares(4, new long[] {1, 1, 1}, 2, 1, 1);
        dueShares(5, new long[] {1, 1, 1}, 2, 2, 1);
        dueShares(1, new long[] {0, 0, 5, 0, 5}, 0, 0, 1, 0, 0);
        // All rests are 6 of 9: the lesser number goes first, not the lesser share.
        dueShares(3, new long[] {5, 2, 2}, 2, 1, 0);
        dueShares(1000000000, new long[] {1000000000, 1000000000, 1000000000}, 333333334, 333333333, 333333333);
    }

    private void sumOfShares() {
        long[] wholes = {0, 1, 31, 32, 33, 999999999, 1000000000};
        for (long whole : wholes) {
            KerfFractions x = new KerfFractions();
            for (int k = 0; k < 32; k++) {
                x.weight(1000000000L - 31250000L * k);
            }
            long sum = 0;
            for (int k = 0; k < 32; k++) {
                sum += x.share(whole, k);
            }
            checks.due("the shares of " + whole, sum, whole);
        }
    }
}
