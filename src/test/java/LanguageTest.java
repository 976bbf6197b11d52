import java.io.IOException;
import java.nio.file.Files;
import java.nio.file.Path;
import java.util.List;
import java.util.Set;
import java.util.TreeSet;
import java.util.regex.Matcher;
import java.util.regex.Pattern;

/** The class's text, the file that the first argument names, keeps to LANGUAGE.md as far as single words tell. */
public final class LanguageTest {
    private static final List<String> RULED_OUT = List.of("package", "protected", "finally", "synchronized", "assert", "native",
        "hashCode", "toString", "Thread");
    // What the class uses so far: rule 4 is to be asked before another name is let in here.
    private static final Set<String> LIBRARY = Set.of("Math.max", "Math.min", "Math.abs", "Long.numberOfLeadingZeros");
    private static final Set<String> THROWN = Set.of("ArrayIndexOutOfBoundsException", "IllegalArgumentException", "ArithmeticException");
    private static final int MOST_LINES = 60;

    private final Checks checks = new Checks("LanguageTest");
    private final String source;
    private final String code;

    private LanguageTest(String source) {
        this.source = source;
        code = source.replaceAll("\"[^\"\n]*\"", "\"\"").replaceAll("(?s)/\\*.*?\\*/", "").replaceAll("//[^\n]*", "");
    }

    public static void main(String[] args) throws IOException {
        Path file = Path.of(args.length > 0 ? args[0] : "src/main/java/KerfFractions.java");
        LanguageTest test = new LanguageTest(Files.readString(file));
        test.signs();
        test.words();
        test.library();
        test.thrown();
        test.lengthsOfMethods();
        test.checks.end();
    }

    private Set<String> found(String pattern) {
        Set<String> all = new TreeSet<>();
        Matcher matcher = Pattern.compile(pattern).matcher(code);
        while (matcher.find()) {
            all.add(matcher.group(1));
        }
        return all;
    }

    private void signs() {
        checks.due("signs beyond 127", source.chars().filter(sign -> sign > 127).count(), 0);
        checks.due("lambdas and method references", found("(->|::)").toString(), "[]");
        checks.due("annotations", found("(@)").toString(), "[]");
    }

    private void words() {
        for (String word : RULED_OUT) {
            checks.due("the word " + word, found("\\b(" + word + ")\\b").toString(), "[]");
        }
        checks.due("statics that are not final", found("\\b(static (?!final\\b)[\\w\\[\\]]+ \\w+ *[;=])").toString(), "[]");
    }

    private void library() {
        Set<String> classes = found("\\bclass (\\w+)");
        Set<String> used = found("(?<![\\w.])([A-Z][a-z]\\w*\\.\\w+)");
        used.removeIf(name -> classes.contains(name.substring(0, name.indexOf('.'))) || LIBRARY.contains(name));
        checks.due("other names of the library", used.toString(), "[]");
        Set<String> made = found("\\bnew (\\w+)");
        made.removeAll(classes);
        made.removeAll(THROWN);
        made.removeAll(Set.of("int", "long"));
        checks.due("what else is made", made.toString(), "[]");
    }

    private void thrown() {
        Set<String> statements = found("\\b(throw\\b[^;]*;)");
        checks.due("there are throw statements", statements.size() > 0, true);
        for (String statement : statements) {
            Matcher matcher = Pattern.compile("throw new (\\w+)\\(\"\"\\);").matcher(statement);
            checks.due(statement, matcher.matches() && THROWN.contains(matcher.group(1)), true);
        }
    }

    /** A method begins with a brace and ends with one that stands as far in as its own first line. */
    private void lengthsOfMethods() {
        Matcher matcher = Pattern.compile("(?m)^( +)(?!.*\\bclass\\b)\\S[^\n;=]*\\) *(?:throws [^\n{]*)?\\{\n((?:\\1 .*\n|\n)*)\\1\\}").matcher(code);
        int methods = 0;
        while (matcher.find()) {
            methods++;
            String first = matcher.group().lines().findFirst().orElse("").trim();
            checks.due("short enough: " + first, matcher.group().lines().count() <= MOST_LINES, true);
        }
        checks.due("methods were seen", methods > 50, true);
    }
}
