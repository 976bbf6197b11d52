import java.util.ArrayList;
import java.util.List;

/** Counts answers that are not as due, and prints them; the end of a test asks for the exit code. */
final class Checks {
    /** A call of the face, whatever its answer's type. */
    interface Call {
        long answer();
    }

    private final String name;
    private int right;
    private final List<String> wrong = new ArrayList<>();

    Checks(String name) {
        this.name = name;
    }

    void due(String what, long answer, long want) {
        note(what, String.valueOf(answer), String.valueOf(want));
    }

    void due(String what, String answer, String want) {
        note(what, answer, want);
    }

    void due(String what, boolean answer, boolean want) {
        note(what, String.valueOf(answer), String.valueOf(want));
    }

    /** The call throws exactly this exception, and it is one that was written, not the machine's. */
    void dueThrows(String what, Class<?> want, Call call) {
        note(what, outcome(call), want.getSimpleName());
    }

    /** What a call answers, or the name of what it throws. */
    static String outcome(Call call) {
        try {
            return String.valueOf(call.answer());
        } catch (RuntimeException e) {
            return e.getClass().getSimpleName() + (isOfTheMachine(e) ? " of the machine itself" : "");
        }
    }

    private static boolean isOfTheMachine(RuntimeException e) {
        String text = e.getMessage();
        return text != null && (text.startsWith("Index ") || text.equals("/ by zero") || text.startsWith("Cannot "));
    }

    private void note(String what, String answer, String want) {
        if (answer.equals(want)) {
            right++;
        } else {
            wrong.add(what + " answered " + answer + ", due is " + want);
        }
    }

    /** Prints what was wrong, and ends the program with exit code 1 if there was anything. */
    void end() {
        for (int i = 0; i < wrong.size() && i < 40; i++) {
            System.out.println(name + ": " + wrong.get(i));
        }
        System.out.println(name + ": " + right + " answers as due, " + wrong.size() + " not");
        if (!wrong.isEmpty() || right == 0) {
            System.exit(1);
        }
    }
}
