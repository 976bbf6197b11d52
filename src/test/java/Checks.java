import java.math.BigInteger;
import java.util.ArrayList;
import java.util.List;

/** Counts answers that are not as due, and prints them; the end of a test asks for the exit code. */
final class Checks {
    /** A call of the face, whatever its answer's type. */
    interface Call {
        long answer();
    }

    /** Calls on a new object, the last of which makes a value. */
    interface Recipe {
        int make(KerfFractions x);
    }

    private final String name;
    private String sentence = "";
    private int right;
    private final List<String> wrong = new ArrayList<>();

    Checks(String name) {
        this.name = name;
    }

    /** Runs the test of one sentence of the document; what is wrong is printed with the sentence. */
    void sentence(String text, Runnable test) {
        sentence = "[" + text + "] ";
        int before = right + wrong.size();
        try {
            test.run();
        } catch (RuntimeException e) {
            wrong.add(sentence + "threw " + e.getClass().getSimpleName());
        }
        if (right + wrong.size() == before) {
            wrong.add(sentence + "tests nothing");
        }
        sentence = "";
    }

    void due(String what, long answer, long want) {
        note(what, String.valueOf(answer), String.valueOf(want));
    }

    void due(String what, String answer, String want) {
        note(what, answer, want);
    }

    void due(String what, boolean answer, boolean want) {
        note(what, String.valueOf(answer), String.valueOf(want));
    }

    /** The call throws exactly this exception, and it is one that was written, not the machine's. */
    void dueThrows(String what, Class<?> want, Call call) {
        note(what, outcome(call), want.getSimpleName());
    }

    /** The lines are the same, or else the first one that is not is told. */
    void dueSame(String what, List<String> answer, List<String> want) {
        for (int i = 0; i < Math.min(answer.size(), want.size()); i++) {
            if (!answer.get(i).equals(want.get(i))) {
                note(what, answer.get(i), want.get(i));
                return;
            }
        }
        note(what, answer.size() + " lines", want.size() + " lines");
    }

    /**
     * The recipe makes top / bottom, every digit of it. Numerator and denominator are read on
     * objects of their own: with 241 digits each, one object would see more than its 512 calls.
     */
    void dueMade(String what, Recipe recipe, BigInteger top, BigInteger bottom) {
        BigInteger common = top.gcd(bottom);
        KerfFractions x = new KerfFractions();
        int a = recipe.make(x);
        if (a == KerfFractions.NONE) {
            note(what, "NONE", "a value");
            return;
        }
        due(what + ": sign", x.sign(a), top.signum());
        due(what + ": numerator", Numbers.digits(x, a, 0), top.abs().divide(common).toString());
        KerfFractions y = new KerfFractions();
        int b = recipe.make(y);
        due(what + ": number", b, a);
        due(what + ": denominator", Numbers.digits(y, b, 1), bottom.divide(common).toString());
    }

    /** What a call answers, or the name of what it throws. */
    static String outcome(Call call) {
        try {
            return String.valueOf(call.answer());
        } catch (RuntimeException e) {
            return e.getClass().getSimpleName() + (isOfTheMachine(e) ? " of the machine itself" : "");
        }
    }

    private static boolean isOfTheMachine(RuntimeException e) {
        String text = e.getMessage();
        return text != null && (text.startsWith("Index ") || text.equals("/ by zero") || text.startsWith("Cannot "));
    }

    private void note(String what, String answer, String want) {
        if (answer.equals(want)) {
            right++;
        } else {
            wrong.add(sentence + what + " answered " + answer + ", due is " + want);
        }
    }

    /** Prints what was wrong, and ends the program with exit code 1 if there was anything. */
    void end() {
        for (int i = 0; i < wrong.size() && i < 40; i++) {
            System.out.println(name + ": " + wrong.get(i));
        }
        System.out.println(name + ": " + right + " answers as due, " + wrong.size() + " not");
        if (!wrong.isEmpty() || right == 0) {
            System.exit(1);
        }
    }
}
