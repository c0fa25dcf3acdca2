import java.util.Arrays;

/**
 * The document's sentences about texts, tokens and reading (its first term, promises 1 to 6), each
 * at its boundary, one step before it and one beyond it.
 */
public final class TextTest {
    private static final Checks CHECKS = new Checks();
    private static final int MOST = 70;

    /** No tokens: the ends of the gaps between them, and what lies far off. */
    private static final int[] NO_TOKENS = {Integer.MIN_VALUE, -1000000001, -100, -3, -2, 5, 6, 8, 9, 46, 47, 48, 49, 65, 66,
        128, 256, 1000, 65536 + 10, Integer.MAX_VALUE};

    private TextTest() {
    }

    public static void main(String[] arguments) {
        seventyTokens();
        whatIsAToken();
        whatTokensStandFor();
        wrongBeforeFull();
        numberOfTokens();
        appending();
        takenOff();
        cleared();
        newObjects();
        singleTokens();
        everyShortText();
        everyShortList();
        longTexts();
        quoteMarks();
        newPairs();
        CHECKS.end();
    }

    private static int[] zeros(int length) {
        int[] text = new int[length];
        Arrays.fill(text, 10);
        return text;
    }

    /** "A TEXT is a list of at most 70 TOKENS"; "there would be more than 70 tokens answers FULL". */
    private static void seventyTokens() {
        for (int length = MOST - 5; length <= MOST; length++) {
            for (int which = 0; which < 16; which++) {
                int a = (which & 1) != 0 ? 11 : -1;
                int b = (which & 2) != 0 ? 12 : -1;
                int c = (which & 4) != 0 ? 13 : -1;
                int d = (which & 8) != 0 ? 14 : -1;
                int sum = length + Integer.bitCount(which);
                String what = length + " tokens and " + a + " " + b + " " + c + " " + d;
                if (sum > MOST) {
                    CHECKS.refused(what, zeros(length), x -> x.tokens(a, b, c, d), ListMachine.FULL);
                } else {
                    ListMachine machine = Texts.machine(zeros(length));
                    CHECKS.same(what, machine.tokens(a, b, c, d), sum);
                    CHECKS.same(what + ": forms", machine.forms(), sum);
                }
            }
        }
    }

    private static boolean isToken(int token) {
        return token >= 0 && token <= 4 || token >= 10 && token <= 45 || token >= 50 && token <= 64;
    }

    /** "one of them is neither -1 nor a token answers BAD_ARG", in each of the four. */
    private static void whatIsAToken() {
        for (int token = -130; token <= 130; token++) {
            oneToken(token);
        }
        for (int token : NO_TOKENS) {
            CHECKS.holds(token + " is no token", !isToken(token));
            oneToken(token);
        }
    }

    private static void oneToken(int token) {
        for (int at = 0; at < 4; at++) {
            int a = at == 0 ? token : -1;
            int b = at == 1 ? token : 12;
            int c = at == 2 ? token : -1;
            int d = at == 3 ? token : 14;
            String what = "token " + token + " as argument " + at;
            if (token != -1 && !isToken(token)) {
                CHECKS.refused(what, new int[] {19, 0}, x -> x.tokens(a, b, c, d), ListMachine.BAD_ARG);
            } else {
                ListMachine machine = Texts.machine(new int[] {19, 0});
                int[] due = Arrays.stream(new int[] {19, 0, a, b, c, d}).filter(t -> t != -1).toArray();
                CHECKS.same(what, machine.tokens(a, b, c, d), due.length);
                CHECKS.same(what + ": tokens", Answers.takenOff(machine), Arrays.toString(due) + " " + ListMachine.NONE);
            }
        }
    }

    /** "3 true, 4 false; 10 to 29, the NUMBERS 0 to 19; 30 to 39, NAMES; 40 to 45, the WORDS ..; 50 to 64, .. BUILT-IN". */
    private static void whatTokensStandFor() {
        quoted(3, 5, 1);
        quoted(4, 5, 0);
        for (int token = 10; token <= 29; token++) {
            quoted(token, 0, token - 10);
        }
        for (int token = 30; token <= 64; token++) {
            if (isToken(token)) {
                quoted(token, 1, token);
                int ending = token <= 39 ? ListMachine.UNBOUND : token <= 45 ? ListMachine.SYNTAX : ListMachine.DONE;
                CHECKS.same("token " + token + " alone", Texts.machine(new int[] {token}).run(), ending);
            }
        }
    }

    private static void quoted(int token, int kind, int number) {
        ListMachine machine = Texts.machine(new int[] {2, token});
        CHECKS.same("quoted " + token + " items", machine.items(), 1);
        CHECKS.same("quoted " + token + " kind", machine.kind(0), kind);
        CHECKS.same("quoted " + token + " number", machine.number(0), number);
    }

    /** "Tested in this order": BAD_ARG, then FULL. */
    private static void wrongBeforeFull() {
        for (int length = MOST - 2; length <= MOST; length++) {
            int[] text = zeros(length);
            CHECKS.refused("first wrong at " + length, text, x -> x.tokens(5, 10, 10, 10), ListMachine.BAD_ARG);
            CHECKS.refused("second wrong at " + length, text, x -> x.tokens(10, 9, 10, 10), ListMachine.BAD_ARG);
            CHECKS.refused("third wrong at " + length, text, x -> x.tokens(10, 10, 46, 10), ListMachine.BAD_ARG);
            CHECKS.refused("last wrong at " + length, text, x -> x.tokens(10, 10, 10, 65), ListMachine.BAD_ARG);
            CHECKS.refused("only a wrong one at " + length, text, x -> x.tokens(-1, -2, -1, -1), ListMachine.BAD_ARG);
            CHECKS.refused("none wrong at " + length, text, x -> x.tokens(10, 64, 45, 0), ListMachine.FULL);
        }
        CHECKS.refused("two wrong ones", zeros(3), x -> x.tokens(10, 5, 10, 65), ListMachine.BAD_ARG);
        CHECKS.refused("four wrong ones", zeros(0), x -> x.tokens(-2, -2, -2, -2), ListMachine.BAD_ARG);
    }

    /** "Otherwise the number of tokens", also if all four are -1. */
    private static void numberOfTokens() {
        ListMachine machine = new ListMachine();
        CHECKS.same("none at 0", machine.tokens(-1, -1, -1, -1), 0);
        for (int n = 1; n <= MOST; n++) {
            int at = n % 4;
            CHECKS.same("token " + n, machine.tokens(at == 0 ? 10 : -1, at == 1 ? 10 : -1, at == 2 ? 10 : -1,
                at == 3 ? 10 : -1), n);
            CHECKS.same("none at " + n, machine.tokens(-1, -1, -1, -1), n);
        }
    }

    /** "Appends those of a, b, c and d, in this order, that are not -1." */
    private static void appending() {
        ListMachine machine = new ListMachine();
        CHECKS.same("four", machine.tokens(10, 11, 12, 13), 4);
        CHECKS.same("first and last", machine.tokens(14, -1, -1, 15), 6);
        CHECKS.same("middle two", machine.tokens(-1, 16, 17, -1), 8);
        CHECKS.same("none", machine.tokens(-1, -1, -1, -1), 8);
        for (int token = 17; token >= 10; token--) {
            CHECKS.same("appended in order", machine.untoken(), token);
        }
        CHECKS.same("all taken off", machine.untoken(), ListMachine.NONE);
    }

    /** "Takes the last token off. NONE if there is none. Otherwise that token." */
    private static void takenOff() {
        CHECKS.refused("untoken of an empty text", new int[0], x -> x.untoken(), ListMachine.NONE);
        for (int length : new int[] {1, 2, MOST - 1, MOST}) {
            ListMachine machine = Texts.machine(zeros(length - 1));
            machine.tokens(64, -1, -1, -1);
            CHECKS.same("untoken at " + length, machine.untoken(), 64);
            CHECKS.same("one less than " + length, Answers.of(machine), Answers.of(Texts.machine(zeros(length - 1))));
            CHECKS.same("there is room again at " + length, machine.tokens(63, -1, -1, -1), length);
            CHECKS.same("untoken again at " + length, machine.untoken(), 63);
        }
        for (int token = 0; token <= 64; token++) {
            if (isToken(token)) {
                CHECKS.same("untoken of " + token, Texts.machine(new int[] {10, token}).untoken(), token);
            }
        }
    }

    /** "The text is empty from now on." */
    private static void cleared() {
        String empty = Answers.of(new ListMachine());
        for (int length : new int[] {0, 1, 2, MOST - 1, MOST}) {
            ListMachine machine = Texts.machine(zeros(length));
            machine.run();
            machine.clear();
            CHECKS.same("cleared at " + length, Answers.of(machine), empty);
            CHECKS.same("untoken after clear at " + length, machine.untoken(), ListMachine.NONE);
            Texts.append(machine, zeros(MOST));
            CHECKS.same("70 fit after clear at " + length, machine.forms(), MOST);
            CHECKS.same("71 don't", machine.tokens(10, -1, -1, -1), ListMachine.FULL);
        }
    }

    /** "ListMachine(): The text is empty", whatever other objects hold. */
    private static void newObjects() {
        ListMachine other = Texts.machine("(print 4) (cons 1 2)");
        String answers = Answers.of(other);
        ListMachine machine = new ListMachine();
        CHECKS.same("new: length", machine.tokens(-1, -1, -1, -1), 0);
        CHECKS.holds("new: reads", machine.reads());
        CHECKS.same("new: forms", machine.forms(), 0);
        CHECKS.same("new: run", machine.run(), ListMachine.DONE);
        CHECKS.same("new: value", Texts.written(machine), "_");
        CHECKS.same("new: counted", machine.counted(), 0);
        CHECKS.same("new: printed, conses, entries", machine.printed() + machine.conses() + machine.entries(), 0);
        CHECKS.same("new: untoken", machine.untoken(), ListMachine.NONE);
        machine.tokens(15, -1, -1, -1);
        machine.run();
        CHECKS.same("the other object", Answers.of(other), answers);
    }

    /** "A FORM is a token 3, 4 or 10 and above": "(", ")" and the quote mark are none. */
    private static void singleTokens() {
        for (int token = 0; token <= 64; token++) {
            if (isToken(token)) {
                ListMachine machine = Texts.machine(new int[] {token});
                CHECKS.same("token " + token + " reads", machine.reads() ? 1 : 0, token > 2 ? 1 : 0);
                CHECKS.same("token " + token + " forms", machine.forms(), token > 2 ? 1 : ListMachine.NONE);
                CHECKS.same("token " + token + " unreadable", machine.run() == ListMachine.UNREADABLE ? 1 : 0,
                    token > 2 ? 0 : 1);
            }
        }
    }

    private static int[] shortText(int length, int which) {
        int[] text = new int[length];
        int left = which;
        for (int i = 0; i < length; i++) {
            text[i] = left % 4 == 3 ? 15 : left % 4;
            left /= 4;
        }
        return text;
    }

    /** "A text can be READ if it is forms one behind the other (also none)": all texts of "(", ")", mark and a number. */
    private static void everyShortText() {
        for (int length = 0; length <= 7; length++) {
            for (int which = 0; which < 1 << 2 * length; which++) {
                int[] text = shortText(length, which);
                int forms = new Reference(text).forms;
                ListMachine machine = Texts.machine(text);
                String what = Arrays.toString(text);
                CHECKS.same(what + " reads", machine.reads() ? 1 : 0, forms == ListMachine.NONE ? 0 : 1);
                CHECKS.same(what + " forms", machine.forms(), forms);
                CHECKS.same(what + " unreadable", machine.run() == ListMachine.UNREADABLE ? 1 : 0,
                    forms == ListMachine.NONE ? 1 : 0);
            }
        }
    }

    /** "( forms ) stands for a LIST of what the forms stand for, a quote mark and a form for the list of the word quote and the form". */
    private static void everyShortList() {
        for (int length = 0; length <= 6; length++) {
            for (int which = 0; which < 1 << 2 * length; which++) {
                int[] inside = shortText(length, which);
                if (new Reference(inside).forms != ListMachine.NONE) {
                    int[] text = new int[length + 3];
                    text[0] = 2;
                    System.arraycopy(inside, 0, text, 2, length);
                    text[length + 2] = 1;
                    CHECKS.same("quoted list of " + Arrays.toString(inside), Texts.written(Texts.machine(text)),
                        listed(inside));
                }
            }
        }
    }

    private static String listed(int[] inside) {
        StringBuilder all = new StringBuilder("( ");
        int[] marks = new int[inside.length + 1];
        int depth = 0;
        for (int token : inside) {
            if (token == 2) {
                all.append("( quote ");
                marks[depth]++;
                continue;
            }
            if (token == 0) {
                all.append("( ");
                depth++;
                marks[depth] = 0;
                continue;
            }
            all.append(token == 1 ? ") " : "5 ");
            depth -= token == 1 ? 1 : 0;
            all.append(") ".repeat(marks[depth]));
            marks[depth] = 0;
        }
        return all.append(")").toString();
    }

    /** The same for the longest texts: as many forms, as deep, and as many marks as there can be. */
    private static void longTexts() {
        for (int n : new int[] {33, 34, 35}) {
            readable("(".repeat(n) + ")".repeat(n), 1);
            readable("()".repeat(n), n);
            unreadable("(".repeat(n) + ")".repeat(n - 1));
            unreadable("(".repeat(n - 1) + ")".repeat(n));
            unreadable("()".repeat(n - 1) + "(");
            unreadable("()".repeat(n - 1) + ")");
            unreadable(")".repeat(n) + "(".repeat(n));
        }
        for (int n : new int[] {68, 69, 70}) {
            readable("a ".repeat(n), n);
            readable("'".repeat(n - 1) + "a", 1);
            readable("'".repeat(n - 2) + "()", 1);
            unreadable("'".repeat(n));
            unreadable("a ".repeat(n - 1) + "'");
            unreadable("(".repeat(n));
            unreadable(")".repeat(n));
            unreadable("(" + "'".repeat(n - 2) + ")");
        }
    }

    private static void readable(String text, int forms) {
        ListMachine machine = Texts.machine(text);
        CHECKS.holds(text + " reads", machine.reads());
        CHECKS.same(text + " forms", machine.forms(), forms);
        CHECKS.holds(text + " runs", machine.run() != ListMachine.UNREADABLE);
    }

    private static void unreadable(String text) {
        ListMachine machine = Texts.machine(text);
        CHECKS.holds(text + " does not read", !machine.reads());
        CHECKS.same(text + " forms", machine.forms(), ListMachine.NONE);
        CHECKS.ends(text, ListMachine.UNREADABLE);
        CHECKS.counts(text, 0, 0, 0);
        CHECKS.prints(text);
    }

    /** "a quote mark and a form": it takes one form, the next one. */
    private static void quoteMarks() {
        readable("'a b", 2);
        readable("'() ()", 2);
        readable("''a b", 2);
        CHECKS.value("'1 2", "2");
        CHECKS.value("'(1 '2 3)", "( 1 ( quote 2 ) 3 )");
        CHECKS.value("'('() 3)", "( ( quote ( ) ) 3 )");
        unreadable("(1 ')");
        unreadable("(1) '");
    }

    /** "Lists .. end with the EMPTY LIST; reading makes new pairs", each time that the text is read. */
    private static void newPairs() {
        CHECKS.value("(isnull '())", "true");
        CHECKS.value("(isnull (cdr '(1)))", "true");
        CHECKS.value("(isnull (cdr (cdr ''1)))", "true");
        CHECKS.value("(same '() (cdr '(1)))", "true");
        CHECKS.value("(same '(1) '(1))", "false");
        CHECKS.counts("'(1 2 3)", 1, 0, 0);
        ListMachine machine = Texts.machine("(define a '(1 2)) (setcar a (add (car a) 5)) (setcdr a (cdr (cdr a))) a");
        for (int i = 0; i < 3; i++) {
            CHECKS.same("changed pairs are read anew", Texts.written(machine), "( 6 )");
        }
    }
}
