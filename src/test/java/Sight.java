import java.util.ArrayList;
import java.util.List;
import java.util.function.Supplier;

/**
 * All that calls tell of an object's state, line by line. Each group of calls is asked of an
 * object made anew, so that none sees more than the 512 calls that the document promises.
 */
final class Sight {
    private final List<String> lines = new ArrayList<>();

    private Sight() {
    }

    static List<String> of(Supplier<KerfFractions> scene) {
        Sight sight = new Sight();
        sight.signsAndBits(scene.get());
        sight.order(scene.get());
        for (int part = 0; part < 2; part++) {
            sight.digits(scene.get(), part, 0);
            sight.digits(scene.get(), part, 1);
        }
        sight.endsAndShares(scene.get());
        sight.nextNumbers(scene.get());
        sight.nextWeight(scene.get());
        return sight.lines;
    }

    private void ask(String call, Checks.Call on) {
        lines.add(call + " answers " + Checks.outcome(on));
    }

    private void signsAndBits(KerfFractions x) {
        for (int a = 0; a < 150; a++) {
            int value = a;
            ask("sign " + a, () -> x.sign(value));
            ask("bits " + a, () -> x.bits(value));
        }
    }

    private void order(KerfFractions x) {
        for (int a = 1; a < 150; a++) {
            int value = a;
            ask("order " + (a - 1) + " " + a, () -> x.order(value - 1, value));
        }
    }

    private void digits(KerfFractions x, int part, int i) {
        for (int a = 0; a < 150; a++) {
            int value = a;
            ask("digit " + a + " " + part + " " + i, () -> x.digit(value, part, i));
        }
    }

    private void endsAndShares(KerfFractions x) {
        for (int root = 0; root < 40; root++) {
            int number = root;
            ask("end " + root + " 0", () -> x.end(number, 0));
            ask("end " + root + " 1", () -> x.end(number, 1));
        }
        for (int k = 0; k < 32; k++) {
            int weight = k;
            ask("share 999999999 " + k, () -> x.share(999999999, weight));
        }
    }

    /** The numbers that the next value and the next root get, and what is put there. */
    private void nextNumbers(KerfFractions x) {
        ask("value -3 4", () -> x.value(-3, 4));
        ask("value 2 1", () -> x.value(2, 1));
        ask("root 149 3", () -> x.root(149, 3));
        for (int a = 0; a < 150; a++) {
            int value = a;
            ask("then bits " + a, () -> x.bits(value));
        }
        for (int root = 0; root < 40; root++) {
            int number = root;
            ask("then end " + root + " 1", () -> x.end(number, 1));
        }
    }

    private void nextWeight(KerfFractions x) {
        ask("weight 1000", () -> x.weight(1000) ? 1 : 0);
        for (int k = 0; k < 32; k++) {
            int weight = k;
            ask("then share 999999999 " + k, () -> x.share(999999999, weight));
        }
    }
}
