import java.util.ArrayList;
import java.util.List;
import java.util.function.Supplier;

/** What a call that throws, or answers NONE or false, leaves as it was, and which of several exceptions is thrown. */
public final class RefusalTest {
    private static final Class<?> INDEX = ArrayIndexOutOfBoundsException.class;
    private static final Class<?> ARGUMENT = IllegalArgumentException.class;
    private static final Class<?> DIVISION = ArithmeticException.class;
    private static final int NONE = KerfFractions.NONE;
    private static final int LEAST = Integer.MIN_VALUE;
    private static final int GREATEST = Integer.MAX_VALUE;

    // The values of every scene but the empty one.
    private static final int ABOVE = 0;
    private static final int BELOW = 1;
    private static final int ZERO = 2;

    // What longOnes() puts at these numbers: 2^799, -2^799, 1 / 2^799 and 2^800 - 1.
    private static final int LONG_ABOVE = 9;
    private static final int LONG_BELOW = 11;
    private static final int SHORT = 13;
    private static final int MOST = 15;

    /** A call on a given object. */
    private interface On {
        long call(KerfFractions x);
    }

    /** A call by its text, which tells it when it fails. */
    private record Told(String text, On on) {
    }

    private final Checks checks = new Checks("RefusalTest");

    public static void main(String[] args) {
        RefusalTest test = new RefusalTest();
        test.whichException();
        test.whatIsLeft();
        test.checks.end();
    }

    private void whichException() {
        checks.sentence("no such value", () -> dueThrown(INDEX, noValue()));
        checks.sentence("no such unit, root, end, weight, digit", () -> dueThrown(INDEX, noOther()));
        checks.sentence("a division by 0", () -> dueThrown(DIVISION, divisions()));
        checks.sentence("another number is not as said", () -> dueThrown(ARGUMENT, wrongNumbers()));
        checks.sentence("the one named first: ArrayIndexOutOfBoundsException", () -> dueThrown(INDEX, severalIndexFirst()));
        checks.sentence("the one named first: IllegalArgumentException", () -> dueThrown(ARGUMENT, severalArgumentFirst()));
        checks.sentence("all weights are 0, behind the others", this::withoutWeights);
    }

    private void whatIsLeft() {
        checks.sentence("a call that throws changes nothing: a few values", () -> dueUnchanged(RefusalTest::few, thrown()));
        checks.sentence("a call that throws changes nothing: all is put", () -> dueUnchanged(RefusalTest::full, thrown()));
        checks.sentence("a call that throws changes nothing: a new object", this::newUnchanged);
        checks.sentence("NONE changes nothing: all values are put", () -> dueNoneUnchanged(RefusalTest::full, makers()));
        checks.sentence("NONE changes nothing: more than 800 bits", () -> dueNoneUnchanged(RefusalTest::longOnes, tooLong()));
        checks.sentence("NONE changes nothing: no root is left", () -> dueNoneUnchanged(RefusalTest::rootsUsed, rootsOnly()));
        checks.sentence("NONE changes nothing: one value is left", () -> dueNoneUnchanged(RefusalTest::oneValueLeft, rootsOnly()));
        checks.sentence("a refused weight changes nothing", this::weightsRefused);
        checks.sentence("looking changes nothing", this::looking);
        checks.sentence("scratch of a refused call is not seen by the next one", this::callsBehindRefusals);
    }

    private static KerfFractions few() {
        KerfFractions x = new KerfFractions();
        x.value(5, 3);
        x.value(-7, 2);
        x.value(0, 1);
        x.root(ABOVE, 9);
        x.weight(3);
        x.weight(5);
        return x;
    }

    /** 40 roots, 150 values and 32 weights. */
    private static KerfFractions full() {
        KerfFractions x = rootsUsed();
        for (int i = 83; i < 150; i++) {
            x.value(i, i + 1);
        }
        for (int k = 0; k < 32; k++) {
            x.weight(k + 1);
        }
        return x;
    }

    private static KerfFractions rootsUsed() {
        KerfFractions x = new KerfFractions();
        x.value(5, 3);
        x.value(-7, 2);
        x.value(0, 1);
        for (int root = 0; root < 40; root++) {
            x.root(ABOVE, 5 * root);
        }
        return x;
    }

    private static KerfFractions oneValueLeft() {
        KerfFractions x = few();
        for (int i = 5; i < 149; i++) {
            x.value(i, 7);
        }
        return x;
    }

    private static KerfFractions longOnes() {
        KerfFractions x = new KerfFractions();
        x.value(5, 3);
        x.value(-7, 2);
        x.value(0, 1);
        x.value(1L << 48, 1);
        for (int i = 0; i < 4; i++) {
            x.times(3 + i, 3 + i);
        }
        x.times(7, x.value(1L << 31, 1));
        x.times(LONG_ABOVE, x.value(-1, 1));
        x.over(x.value(1, 1), LONG_ABOVE);
        x.add(LONG_ABOVE, x.add(LONG_ABOVE, 10));
        return x;
    }

    private static void tell(List<Told> list, String text, On on) {
        list.add(new Told(text, on));
    }

    private static List<Told> noValue() {
        List<Told> list = new ArrayList<>();
        for (int no : new int[] {-1, 150, LEAST, GREATEST}) {
            tell(list, "add " + no + ", 0", x -> x.add(no, ABOVE));
            tell(list, "add 0, " + no, x -> x.add(ABOVE, no));
            tell(list, "add " + no + " twice", x -> x.add(no, no));
            tell(list, "times " + no + ", 0", x -> x.times(no, ABOVE));
            tell(list, "times 0, " + no, x -> x.times(ABOVE, no));
            tell(list, "over " + no + ", 0", x -> x.over(no, ABOVE));
            tell(list, "over 0, " + no, x -> x.over(ABOVE, no));
            tell(list, "order " + no + ", 0", x -> x.order(no, ABOVE));
            tell(list, "order 0, " + no, x -> x.order(ABOVE, no));
            tell(list, "root " + no, x -> x.root(no, 5));
            tell(list, "round " + no, x -> x.round(no, 0, 1));
            tell(list, "turn " + no, x -> x.turn(no, 0, 1));
            tell(list, "digit of " + no, x -> x.digit(no, 0, 0));
            tell(list, "bits " + no, x -> x.bits(no));
            tell(list, "sign " + no, x -> x.sign(no));
        }
        return list;
    }

    private static List<Told> noOther() {
        List<Told> list = new ArrayList<>();
        for (int no : new int[] {-1, 6, LEAST, GREATEST}) {
            tell(list, "turn from " + no, x -> x.turn(ABOVE, no, 1));
            tell(list, "turn to " + no, x -> x.turn(ABOVE, 1, no));
            tell(list, "turn from and to " + no, x -> x.turn(ABOVE, no, no));
        }
        for (int no : new int[] {-1, 40, LEAST, GREATEST}) {
            tell(list, "end of root " + no, x -> x.end(no, 1));
        }
        for (int no : new int[] {-1, 2, LEAST, GREATEST}) {
            tell(list, "end " + no, x -> x.end(0, no));
            tell(list, "end " + no + " of no root", x -> x.end(40, no));
        }
        for (int no : new int[] {-1, 32, LEAST, GREATEST}) {
            tell(list, "share of weight " + no, x -> x.share(100, no));
        }
        for (int no : new int[] {-1, 1, LEAST, GREATEST}) {
            tell(list, "digit " + no, x -> x.digit(ABOVE, 0, no));
            tell(list, "digit " + no + " of the denominator", x -> x.digit(ABOVE, 1, no));
        }
        return list;
    }

    private static List<Told> divisions() {
        List<Told> list = new ArrayList<>();
        for (long above : new long[] {1, 0, -1, Long.MIN_VALUE, Long.MAX_VALUE}) {
            tell(list, above + " / 0", x -> x.value(above, 0));
        }
        tell(list, "over 0", x -> x.over(ABOVE, ZERO));
        tell(list, "a value below 0 over 0", x -> x.over(BELOW, ZERO));
        tell(list, "0 over 0", x -> x.over(ZERO, ZERO));
        return list;
    }

    private static List<Told> wrongNumbers() {
        List<Told> list = new ArrayList<>();
        tell(list, "root below 0", x -> x.root(BELOW, 5));
        for (int no : new int[] {-1, 201, LEAST, GREATEST}) {
            tell(list, "root by " + no + " bits", x -> x.root(ABOVE, no));
        }
        for (int no : new int[] {-1, 4, LEAST, GREATEST}) {
            tell(list, "round by rule " + no, x -> x.round(ABOVE, no, 1));
        }
        for (long no : new long[] {0, -1, Long.MIN_VALUE}) {
            tell(list, "round by unit " + no, x -> x.round(ABOVE, 1, no));
        }
        for (long no : new long[] {-1, 1000000001, Long.MIN_VALUE, Long.MAX_VALUE}) {
            tell(list, "share of " + no, x -> x.share(no, 0));
        }
        for (int no : new int[] {-1, 2, LEAST, GREATEST}) {
            tell(list, "digit of part " + no, x -> x.digit(ABOVE, no, 0));
        }
        return list;
    }

    private static List<Told> severalIndexFirst() {
        List<Told> list = new ArrayList<>();
        for (int no : new int[] {-1, 150}) {
            tell(list, "no value over 0, " + no, x -> x.over(no, ZERO));
            tell(list, "root of no value by -1 bits, " + no, x -> x.root(no, -1));
            tell(list, "root of no value by 201 bits, " + no, x -> x.root(no, 201));
            tell(list, "no value by rule 4, " + no, x -> x.round(no, 4, 1));
            tell(list, "no value by unit 0, " + no, x -> x.round(no, 0, 0));
            tell(list, "no value by rule -1 and unit -1, " + no, x -> x.round(no, -1, -1));
            tell(list, "no value from no unit, " + no, x -> x.turn(no, 6, 6));
            tell(list, "no value's part 2, " + no, x -> x.digit(no, 2, 0));
            tell(list, "no value's part -1, digit -1, " + no, x -> x.digit(no, -1, -1));
        }
        tell(list, "share of no weight and -1", x -> x.share(-1, 32));
        tell(list, "share of weight -1 and too much", x -> x.share(1000000001, -1));
        return list;
    }

    private static List<Told> severalArgumentFirst() {
        List<Told> list = new ArrayList<>();
        tell(list, "root below 0 by -1 bits", x -> x.root(BELOW, -1));
        tell(list, "root below 0 by 201 bits", x -> x.root(BELOW, 201));
        tell(list, "rule 4 and unit 0", x -> x.round(ABOVE, 4, 0));
        // The part is looked at before the digit.
        tell(list, "part 2, digit -1", x -> x.digit(ABOVE, 2, -1));
        tell(list, "part -1, digit 1", x -> x.digit(ABOVE, -1, 1));
        tell(list, "part 2, digit 1 of 0", x -> x.digit(ZERO, 2, 1));
        return list;
    }

    private void dueThrown(Class<?> want, List<Told> calls) {
        for (Told told : calls) {
            KerfFractions few = few();
            checks.dueThrows(told.text, want, () -> told.on.call(few));
            KerfFractions full = full();
            checks.dueThrows(told.text + " when all is put", want, () -> told.on.call(full));
        }
    }

    private void withoutWeights() {
        for (Supplier<KerfFractions> scene : List.<Supplier<KerfFractions>>of(KerfFractions::new, RefusalTest::zeroWeights)) {
            KerfFractions x = scene.get();
            checks.dueThrows("all is right but for the weights", DIVISION, () -> x.share(0, 0));
            checks.dueThrows("whole and weight at their ends", DIVISION, () -> x.share(1000000000, 31));
            checks.dueThrows("whole -1", ARGUMENT, () -> x.share(-1, 0));
            checks.dueThrows("whole too great", ARGUMENT, () -> x.share(1000000001, 31));
            checks.dueThrows("no such weight", INDEX, () -> x.share(5, 32));
            checks.dueThrows("all is wrong", INDEX, () -> x.share(-1, -1));
        }
    }

    private static KerfFractions zeroWeights() {
        KerfFractions x = few();
        x.clearWeights();
        for (int k = 0; k < 32; k++) {
            x.weight(0);
        }
        return x;
    }

    private static List<Told> thrown() {
        List<Told> list = new ArrayList<>(noValue());
        list.addAll(noOther());
        list.addAll(divisions());
        list.addAll(wrongNumbers());
        list.addAll(severalIndexFirst());
        list.addAll(severalArgumentFirst());
        return list;
    }

    /** Leaves the call's exception, which other tests look at, alone. */
    private static KerfFractions behind(Supplier<KerfFractions> scene, On on) {
        KerfFractions x = scene.get();
        Checks.outcome(() -> on.call(x));
        return x;
    }

    private void dueUnchanged(Supplier<KerfFractions> scene, List<Told> calls) {
        List<String> before = Sight.of(scene);
        for (Told told : calls) {
            checks.dueSame(told.text, Sight.of(() -> behind(scene, told.on)), before);
        }
    }

    private void newUnchanged() {
        List<Told> list = new ArrayList<>(noValue());
        list.addAll(noOther());
        tell(list, "1 / 0", x -> x.value(1, 0));
        tell(list, "over 0", x -> x.over(0, 149));
        tell(list, "root by 201 bits", x -> x.root(0, 201));
        tell(list, "rule 4", x -> x.round(0, 4, 1));
        tell(list, "unit 0", x -> x.round(0, 3, 0));
        tell(list, "share where all weights are 0", x -> x.share(1, 0));
        tell(list, "share of -1", x -> x.share(-1, 0));
        tell(list, "digit 1 of 0", x -> x.digit(0, 0, 1));
        tell(list, "part 2", x -> x.digit(0, 2, 0));
        dueUnchanged(KerfFractions::new, list);
    }

    private static List<Told> rootsOnly() {
        List<Told> list = new ArrayList<>();
        tell(list, "root", x -> x.root(ABOVE, 200));
        tell(list, "an exact root", x -> x.root(ZERO, 0));
        return list;
    }

    private static List<Told> makers() {
        List<Told> list = new ArrayList<>(rootsOnly());
        tell(list, "value", x -> x.value(5, 7));
        tell(list, "add", x -> x.add(ABOVE, BELOW));
        tell(list, "times", x -> x.times(ABOVE, BELOW));
        tell(list, "over", x -> x.over(ABOVE, BELOW));
        tell(list, "round", x -> x.round(BELOW, 2, 3));
        tell(list, "turn", x -> x.turn(BELOW, 2, 3));
        return list;
    }

    private static List<Told> tooLong() {
        List<Told> list = new ArrayList<>();
        tell(list, "add", x -> x.add(LONG_ABOVE, LONG_ABOVE));
        tell(list, "add below 0", x -> x.add(LONG_BELOW, LONG_BELOW));
        tell(list, "add long and short", x -> x.add(LONG_ABOVE, SHORT));
        tell(list, "add short ones", x -> x.add(SHORT, ABOVE));
        tell(list, "times", x -> x.times(LONG_ABOVE, LONG_BELOW));
        tell(list, "times short ones", x -> x.times(SHORT, SHORT));
        tell(list, "over long by short", x -> x.over(LONG_ABOVE, SHORT));
        tell(list, "over short by long", x -> x.over(SHORT, LONG_BELOW));
        tell(list, "round", x -> x.round(MOST, 1, 2));
        tell(list, "turn", x -> x.turn(LONG_BELOW, 2, 0));
        return list;
    }

    private void dueNoneUnchanged(Supplier<KerfFractions> scene, List<Told> calls) {
        for (Told told : calls) {
            checks.due(told.text, told.on.call(scene.get()), NONE);
        }
        dueUnchanged(scene, calls);
    }

    private void weightsRefused() {
        List<Told> list = new ArrayList<>();
        for (long w : new long[] {-1, 1000000001, Long.MIN_VALUE, Long.MAX_VALUE}) {
            tell(list, "weight " + w, x -> x.weight(w) ? 1 : 0);
        }
        for (Told told : list) {
            checks.due(told.text, told.on.call(few()), 0);
        }
        dueUnchanged(RefusalTest::few, list);
        tell(list, "the 33rd weight", x -> x.weight(7) ? 1 : 0);
        for (Told told : list) {
            checks.due(told.text + " behind 32", told.on.call(full()), 0);
        }
        dueUnchanged(RefusalTest::full, list);
    }

    private void looking() {
        List<Told> list = new ArrayList<>();
        tell(list, "order", x -> x.order(ABOVE, BELOW));
        tell(list, "order of long ones", x -> x.order(LONG_ABOVE, SHORT));
        tell(list, "end", x -> x.end(0, 1));
        tell(list, "share", x -> x.share(999, 1));
        tell(list, "digit", x -> x.digit(LONG_ABOVE, 0, 0));
        tell(list, "digit of the denominator", x -> x.digit(SHORT, 1, 0));
        tell(list, "bits", x -> x.bits(LONG_ABOVE));
        tell(list, "sign", x -> x.sign(LONG_BELOW));
        dueUnchanged(RefusalTest::few, list);
        dueUnchanged(RefusalTest::full, list);
        dueUnchanged(RefusalTest::longOnes, list);
    }

    private void callsBehindRefusals() {
        String[] want = {"-11/6", "-35/6", "-10/21", "2/1", "-889/10", "5/3"};
        List<Told> makers = new ArrayList<>();
        tell(makers, "add", x -> x.add(ABOVE, BELOW));
        tell(makers, "times", x -> x.times(ABOVE, BELOW));
        tell(makers, "over", x -> x.over(ABOVE, BELOW));
        tell(makers, "round", x -> x.round(ABOVE, 2, 1));
        tell(makers, "turn", x -> x.turn(BELOW, 3, 1));
        tell(makers, "value", x -> x.value(-5, -3));
        for (Told refused : tooLong()) {
            for (int i = 0; i < want.length; i++) {
                KerfFractions x = behind(RefusalTest::longOnes, refused.on);
                int made = (int) makers.get(i).on.call(x);
                checks.due(makers.get(i).text + " behind a refused " + refused.text, Numbers.show(x, made), want[i]);
            }
        }
    }
}
