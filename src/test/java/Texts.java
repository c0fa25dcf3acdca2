import java.util.ArrayList;
import java.util.List;
import java.util.StringJoiner;

/**
 * Texts as a person writes them. Names are a to j (30 to 39); numbers 0 to 19, words, built-in
 * names, true, false, parentheses and the quote mark stand for themselves.
 */
final class Texts {
    private static final List<String> WORDS = List.of("quote", "if", "lambda", "define", "set", "begin");
    private static final List<String> BUILT_IN = List.of("cons", "car", "cdr", "isnull", "ispair", "same", "add",
        "sub", "mul", "less", "setcar", "setcdr", "print", "callcc", "apply");

    private Texts() {
    }

    static int[] tokens(String text) {
        String spaced = text.replace("(", " ( ").replace(")", " ) ").replace("'", " ' ").trim();
        List<Integer> tokens = new ArrayList<>();
        for (String part : spaced.split("\\s+")) {
            if (!part.isEmpty()) {
                tokens.add(token(part));
            }
        }
        return tokens.stream().mapToInt(Integer::intValue).toArray();
    }

    private static int token(String part) {
        if (WORDS.contains(part)) {
            return 40 + WORDS.indexOf(part);
        }
        if (BUILT_IN.contains(part)) {
            return 50 + BUILT_IN.indexOf(part);
        }
        switch (part) {
            case "(":
                return 0;
            case ")":
                return 1;
            case "'":
                return 2;
            case "true":
                return 3;
            case "false":
                return 4;
            default:
                break;
        }
        if (part.length() == 1 && part.charAt(0) >= 'a' && part.charAt(0) <= 'j') {
            return 30 + part.charAt(0) - 'a';
        }
        int number = Integer.parseInt(part);
        if (number < 0 || number > 19) {
            throw new IllegalArgumentException(part);
        }
        return 10 + number;
    }

    private static String spelling(int token) {
        if (token < 40) {
            return String.valueOf((char) ('a' + token - 30));
        }
        return token < 50 ? WORDS.get(token - 40) : BUILT_IN.get(token - 50);
    }

    static ListMachine machine(String text) {
        return machine(tokens(text));
    }

    static ListMachine machine(int[] tokens) {
        ListMachine machine = new ListMachine();
        append(machine, tokens);
        return machine;
    }

    static void append(ListMachine machine, int[] tokens) {
        for (int i = 0; i < tokens.length; i += 4) {
            int answer = machine.tokens(tokens[i], at(tokens, i + 1), at(tokens, i + 2), at(tokens, i + 3));
            if (answer < 0) {
                throw new IllegalStateException("the text was refused with " + answer);
            }
        }
    }

    private static int at(int[] tokens, int i) {
        return i < tokens.length ? tokens[i] : -1;
    }

    /** The items, a space between each two: "*" is a procedure, "_" is nothing. */
    static String written(ListMachine machine) {
        StringJoiner all = new StringJoiner(" ");
        int items = machine.items();
        if (items < 0) {
            return String.valueOf(items);
        }
        for (int i = 0; i < items; i++) {
            all.add(item(machine.kind(i), machine.number(i)));
        }
        return all.toString();
    }

    private static String item(int kind, int number) {
        if (kind == 0) {
            return String.valueOf(number);
        }
        if (kind == 1) {
            return spelling(number);
        }
        if (kind == 5) {
            return number == 1 ? "true" : number == 0 ? "false" : "truth" + number;
        }
        String sign = kind == 2 ? "(" : kind == 3 ? ")" : kind == 4 ? "." : kind == 6 ? "*" : kind == 7 ? "_" : "kind" + kind;
        return number == 0 ? sign : sign + "with" + number;
    }
}
