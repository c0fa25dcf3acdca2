import java.util.ArrayList;
import java.util.List;

/** Forms that give a value of each kind, for sentences that hold for all values of a kind. */
final class Samples {
    static final List<String> NUMBERS = List.of("0", "1", "19", "(sub 0 1)", "(add 15 15)");

    static final List<String> PAIRS = List.of("'(1)", "'(() 2)", "(cons 1 2)", "''a");

    /** Names, words and names of built-in procedures as such, the first and the last token of each. */
    static final List<String> SYMBOLS = List.of("'a", "'j", "'quote", "'begin", "'cons", "'apply");

    static final List<String> TRUTHS = List.of("true", "false");

    static final String EMPTY = "'()";

    static final String NOTHING = "(if false 1)";

    static final List<String> BUILT_IN = List.of("cons", "apply");

    static final List<String> PROCEDURES = List.of("(lambda () 1)", "(lambda (a) a)");

    static final String CONTINUATION = "(callcc (lambda (a) a))";

    private Samples() {
    }

    static List<String> noPairs() {
        List<String> forms = noProcedures();
        forms.removeAll(PAIRS);
        forms.addAll(applicable());
        return forms;
    }

    static List<String> noNumbers() {
        List<String> forms = all();
        forms.removeAll(NUMBERS);
        return forms;
    }

    static List<String> noProcedures() {
        List<String> forms = new ArrayList<>(NUMBERS);
        forms.addAll(PAIRS);
        forms.addAll(SYMBOLS);
        forms.addAll(TRUTHS);
        forms.add(EMPTY);
        forms.add(NOTHING);
        return forms;
    }

    static List<String> applicable() {
        List<String> forms = new ArrayList<>(BUILT_IN);
        forms.addAll(PROCEDURES);
        forms.add(CONTINUATION);
        return forms;
    }

    static List<String> all() {
        List<String> forms = noProcedures();
        forms.addAll(applicable());
        return forms;
    }

    /** What is another value each time that it is worked out, or read. */
    static boolean isAnew(String form) {
        return PAIRS.contains(form) || PROCEDURES.contains(form) || CONTINUATION.equals(form);
    }
}
