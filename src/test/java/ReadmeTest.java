/** The example in README.md answers what its comments say. */
public final class ReadmeTest {
    public static void main(String[] args) {
        Checks checks = new Checks("ReadmeTest");
        KerfFractions x = new KerfFractions();
        int board = x.value(2440, 1);
        int kerf = x.turn(x.value(1, 8), 3, 1);
        int rest = x.add(board, x.times(kerf, x.value(-7, 1)));
        int each = x.over(rest, x.value(8, 1));
        int whole = x.round(each, 0, 1);
        checks.due("kerf", Numbers.show(x, kerf), "127/40");
        checks.due("each", Numbers.show(x, each), "96711/320");
        checks.due("whole", Numbers.show(x, whole), "302/1");
        checks.due("the numerator's highest digit", x.digit(each, 0, 0), 9);

        int diagonal = x.root(x.value(2, 1), 10);
        checks.due("lower", Numbers.show(x, x.end(diagonal, 0)), "181/128");
        checks.due("upper", Numbers.show(x, x.end(diagonal, 1)), "1449/1024");

        x.weight(1);
        x.weight(2);
        checks.due("second", x.share(100, 1), 67);
        checks.end();
    }
}
