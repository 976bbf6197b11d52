import java.math.BigInteger;

/** Long runs of calls, drawn from a fixed sequence of numbers, answer as the plain model does. */
public final class ModelTest {
    private static final int MOST_CALLS = 512;
    private static final String[] NAMES = {"value", "add", "times", "over", "order", "root", "end", "round", "turn",
        "weight", "clearWeights", "share", "digit", "bits", "sign"};
    // How often each call is drawn, by the kind of run: all alike, growing numbers, roots and roundings, shares.
    private static final int[][] DRAWS = {
        {4, 4, 4, 4, 4, 2, 3, 4, 4, 3, 1, 4, 3, 3, 3},
        {4, 6, 8, 6, 6, 1, 1, 2, 2, 0, 0, 0, 4, 3, 1},
        {4, 2, 4, 4, 2, 7, 4, 9, 1, 0, 0, 0, 4, 3, 1},
        {0, 0, 0, 0, 0, 0, 0, 0, 0, 20, 1, 40, 0, 0, 0},
    };

    private final Checks checks = new Checks("ModelTest");
    private long drawn = 20261119;
    private KerfFractions object;
    private PlainModel model;
    private int calls;
    private String where;

    public static void main(String[] args) {
        ModelTest test = new ModelTest();
        for (int run = 0; run < 1200; run++) {
            test.run(run);
        }
        test.checks.end();
    }

    private int draw(int below) {
        drawn = drawn * 6364136223846793005L + 1442695040888963407L;
        return (int) ((drawn >>> 33) % below);
    }

    private void run(int run) {
        object = new KerfFractions();
        model = new PlainModel();
        calls = 0;
        int[] draws = DRAWS[run % DRAWS.length];
        int sum = 0;
        for (int often : draws) {
            sum += often;
        }
        while (calls < MOST_CALLS) {
            where = "run " + run + ", call " + calls + ": ";
            int left = draw(sum);
            int kind = 0;
            while (left >= draws[kind]) {
                left -= draws[kind];
                kind++;
            }
            int before = model.put;
            call(kind);
            for (int made = before; made < model.put && calls < MOST_CALLS - 10; made++) {
                look(made);
            }
        }
    }

    private void same(String call, Checks.Call got, Checks.Call want) {
        calls++;
        checks.due(where + call, Checks.outcome(got), Checks.outcome(want));
    }

    private void call(int kind) {
        int a = number();
        int b = number();
        switch (kind) {
            case 0 -> callValue(above(), above());
            case 1 -> same("add " + a + " " + b, () -> object.add(a, b), () -> model.add(a, b));
            case 2 -> same("times " + a + " " + b, () -> object.times(a, b), () -> model.times(a, b));
            case 3 -> same("over " + a + " " + b, () -> object.over(a, b), () -> model.over(a, b));
            case 4 -> same("order " + a + " " + b, () -> object.order(a, b), () -> model.order(a, b));
            case 5 -> callRoot(a, draw(8) == 0 ? draw(204) - 1 : new int[] {0, 1, 2, 31, 62, 100, 199, 200}[draw(8)]);
            case 6 -> callEnd(draw(42) - 1, draw(10) == 0 ? draw(4) - 1 : draw(2));
            case 7 -> callRound(a, draw(20) == 0 ? draw(6) - 1 : draw(4), draw(2) == 0 ? 1 : Math.abs(above()) - (draw(30) == 0 ? 1 : 0));
            case 8 -> callTurn(a, draw(20) == 0 ? draw(8) - 1 : draw(6), draw(20) == 0 ? draw(8) - 1 : draw(6));
            case 9 -> callWeight(weight());
            case 10 -> {
                calls++;
                object.clearWeights();
                model.clearWeights();
            }
            case 11 -> callShare(draw(30) == 0 ? (draw(2) == 0 ? -1 : 1_000_000_001L) : weight(), draw(34) - 1);
            case 12 -> callDigit(a, draw(10) == 0 ? draw(4) - 1 : draw(2), draw(3) == 0 ? draw(245) - 1 : draw(12));
            case 13 -> same("bits " + a, () -> object.bits(a), () -> model.bits(a));
            default -> same("sign " + a, () -> object.sign(a), () -> model.sign(a));
        }
    }

    /** A value's number, mostly one that was put, seldom none at all. */
    private int number() {
        if (draw(40) == 0) {
            return new int[] {-1, 150, Integer.MIN_VALUE, Integer.MAX_VALUE}[draw(4)];
        }
        if (model.put == 0 || draw(12) == 0) {
            return draw(150);
        }
        return Math.max(0, model.put - 1 - (draw(2) == 0 ? draw(4) : draw(model.put)));
    }

    private long above() {
        long bits = ((long) draw(1 << 30) << 34) ^ ((long) draw(1 << 30) << 15) ^ draw(1 << 15);
        return switch (draw(6)) {
            case 0 -> draw(21) - 10;
            case 1 -> draw(2001) - 1000;
            case 2 -> (1L << draw(64)) + draw(3) - 1;
            case 3 -> new long[] {Long.MIN_VALUE, Long.MAX_VALUE, 0, Long.MIN_VALUE + 1, -1, 1}[draw(6)];
            case 4 -> bits >> draw(64);
            default -> bits;
        };
    }

    private long weight() {
        return switch (draw(6)) {
            case 0 -> new long[] {0, 1, 1_000_000_000, 999_999_999}[draw(4)];
            case 1 -> draw(30) == 0 ? new long[] {-1, 1_000_000_001, Long.MIN_VALUE, Long.MAX_VALUE}[draw(4)] : 7;
            case 2, 3 -> draw(8);
            case 4 -> draw(1000);
            default -> draw(1_000_000_001);
        };
    }

    private void callValue(long above, long below) {
        same("value " + above + " " + below, () -> object.value(above, below), () -> model.value(above, below));
    }

    private void callRoot(int a, int bits) {
        same("root " + a + " " + bits, () -> object.root(a, bits), () -> model.root(a, bits));
    }

    private void callEnd(int root, int which) {
        same("end " + root + " " + which, () -> object.end(root, which), () -> model.end(root, which));
    }

    private void callRound(int a, int rule, long unit) {
        same("round " + a + " " + rule + " " + unit, () -> object.round(a, rule, unit), () -> model.round(a, rule, unit));
    }

    private void callTurn(int a, int from, int to) {
        same("turn " + a + " " + from + " " + to, () -> object.turn(a, from, to), () -> model.turn(a, from, to));
    }

    private void callWeight(long w) {
        same("weight " + w, () -> object.weight(w) ? 1 : 0, () -> model.weight(w) ? 1 : 0);
    }

    private void callShare(long whole, int k) {
        same("share " + whole + " " + k, () -> object.share(whole, k), () -> model.share(whole, k));
    }

    private void callDigit(int a, int part, int i) {
        same("digit " + a + " " + part + " " + i, () -> object.digit(a, part, i), () -> model.digit(a, part, i));
    }

    /** Looks at a value that was just made: its sign, its bits, and some of its digits. */
    private void look(int made) {
        same("sign " + made, () -> object.sign(made), () -> model.sign(made));
        same("bits " + made, () -> object.bits(made), () -> model.bits(made));
        for (int part = 0; part < 2; part++) {
            BigInteger size = part == 0 ? model.tops[made].abs() : model.bottoms[made];
            int length = size.toString().length();
            callDigit(made, part, length - 1);
            callDigit(made, part, draw(length));
        }
    }
}
