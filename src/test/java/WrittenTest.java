import java.util.function.IntFunction;

/**
 * The document's sentences about values written, items, and numbers printed (promises 7 to 12), at
 * their boundaries: 120 items, 20 numbers, and indices beside the first and the last one.
 */
public final class WrittenTest {
    private static final Checks CHECKS = new Checks();
    private static final int MOST = 120;

    /** (d X) has twice as many items as the list X: its parts stand in it once as a list, and once behind that. */
    private static final String TWICE = "(define d (lambda (a) (cons a a))) ";
    private static final int[] FAR = {Integer.MIN_VALUE, Integer.MIN_VALUE + 1, ListMachine.LONG, ListMachine.NONE,
        ListMachine.FULL, ListMachine.BAD_ARG, -120, -2, -1, 121, 122, 127, 128, 255, 256, 1000, 65536, Integer.MAX_VALUE};

    private WrittenTest() {
    }

    public static void main(String[] arguments) {
        kinds();
        lists();
        ends();
        firsts();
        itemsAroundTheMost();
        neverEnding();
        indices();
        indicesWithoutItems();
        outputs();
        outputsAfterErrors();
        CHECKS.end();
    }

    private static void item(String form, int kind, int number) {
        ListMachine machine = Texts.machine(form);
        CHECKS.same(form + " items", machine.items(), 1);
        CHECKS.same(form + " kind", machine.kind(0), kind);
        CHECKS.same(form + " number", machine.number(0), number);
    }

    /** "0 a number, and it; 1 a name, word or name .. as such, and its token; .. 5 true or false, and 1 or 0; 6 ..; 7 nothing, and 0". */
    private static void kinds() {
        item("0", 0, 0);
        item("1", 0, 1);
        item("19", 0, 19);
        item("(sub 0 1)", 0, -1);
        for (int token = 30; token <= 64; token++) {
            if (token <= 45 || token >= 50) {
                ListMachine machine = Texts.machine(new int[] {2, token});
                CHECKS.same("kind of token " + token, machine.kind(0), 1);
                CHECKS.same("number of token " + token, machine.number(0), token);
            }
            if (token >= 50) {
                ListMachine machine = Texts.machine(new int[] {token});
                CHECKS.same("kind of procedure " + token, machine.kind(0), 6);
                CHECKS.same("number of procedure " + token, machine.number(0), 0);
            }
        }
        item("true", 5, 1);
        item("false", 5, 0);
        item("(lambda () 1)", 6, 0);
        item("(lambda () 1) (lambda () 2) (lambda () 3)", 6, 0);
        item("(callcc (lambda (a) a))", 6, 0);
        item("(callcc (lambda (a) 1)) (callcc (lambda (a) a))", 6, 0);
        item("", 7, 0);
        item("(if false 1)", 7, 0);
        item("(define a 5)", 7, 0);
        item("(setcar '(1) 5)", 7, 0);
    }

    /** "A pair is "(", its first written; as long as the rest is a pair that one's first; .. ")". The empty list is "(" and ")"." */
    private static void lists() {
        CHECKS.value("'()", "( )");
        ListMachine empty = Texts.machine("'()");
        CHECKS.same("empty list: items", empty.items(), 2);
        CHECKS.same("empty list: kinds", 10 * empty.kind(0) + empty.kind(1), 23);
        CHECKS.same("empty list: numbers", empty.number(0) + empty.number(1), 0);
        StringBuilder inside = new StringBuilder();
        for (int length = 1; length <= 19; length++) {
            inside.append(length).append(' ');
            CHECKS.value("'(" + inside + ")", "( " + inside + ")");
            CHECKS.same(length + " parts: items", Texts.machine("'(" + inside + ")").items(), length + 2);
        }
        for (int depth = 1; depth <= 34; depth++) {
            String text = "'" + "(".repeat(depth) + ")".repeat(depth);
            CHECKS.value(text, "( ".repeat(depth) + ") ".repeat(depth - 1) + ")");
        }
        CHECKS.value("'(() (()) ((1)) 2)", "( ( ) ( ( ) ) ( ( 1 ) ) 2 )");
        CHECKS.value("(define a '(1)) (cons a (cons a a))", "( ( 1 ) ( 1 ) 1 )");
        CHECKS.value("(cons (cons 1 2) (cons 3 4))", "( ( 1 . 2 ) 3 . 4 )");
    }

    private static String writtenAs(String form) {
        return Texts.written(Texts.machine(form));
    }

    /** "if it is not the empty list a dot and it written", for a rest of each kind, behind one pair and behind two. */
    private static void ends() {
        for (String form : Samples.all()) {
            String own = writtenAs(form);
            boolean isList = own.startsWith("(");
            String end = isList ? own.substring(1) : " . " + own + " )";
            CHECKS.value("(cons 7 " + form + ")", "( 7" + end);
            CHECKS.value("(cons 7 (cons 8 " + form + "))", "( 7 8" + end);
        }
        CHECKS.value("(cons 7 '())", "( 7 )");
        CHECKS.value("(cons 7 8)", "( 7 . 8 )");
        ListMachine dotted = Texts.machine("(cons 5 'a)");
        int[] kinds = {2, 0, 4, 1, 3};
        int[] numbers = {0, 5, 0, 30, 0};
        for (int i = 0; i < kinds.length; i++) {
            CHECKS.same("dotted: kind " + i, dotted.kind(i), kinds[i]);
            CHECKS.same("dotted: number " + i, dotted.number(i), numbers[i]);
        }
    }

    /** "its first written", for a first of each kind. */
    private static void firsts() {
        for (String form : Samples.all()) {
            String own = writtenAs(form);
            CHECKS.value("(cons " + form + " 7)", "( " + own + " . 7 )");
            CHECKS.value("(cons " + form + " '())", "( " + own + " )");
            CHECKS.value("(cons " + form + " (cons " + form + " '()))", "( " + own + " " + own + " )");
        }
    }

    /** "The value has more than 120 items." The text has a value of this many, its last but one item being of the kind. */
    private static void around(String what, IntFunction<String> text, int from, int to, int lastKind) {
        CHECKS.holds(what + " reaches both sides", from < MOST && to > MOST);
        for (int items = from; items <= to; items++) {
            ListMachine machine = Texts.machine(text.apply(items));
            String of = what + " of " + items;
            CHECKS.same(of + " run", machine.run(), ListMachine.DONE);
            CHECKS.same(of + " items", machine.items(), items <= MOST ? items : ListMachine.LONG);
            CHECKS.same(of + " first kind", machine.kind(0), items <= MOST ? 2 : ListMachine.NONE);
            CHECKS.same(of + " last kind but one", machine.kind(items - 2), items <= MOST ? lastKind : ListMachine.NONE);
            CHECKS.same(of + " last kind", machine.kind(items - 1), items <= MOST ? 3 : ListMachine.NONE);
            CHECKS.same(of + " kind 119", machine.kind(119), items == MOST ? 3 : ListMachine.NONE);
            CHECKS.same(of + " kind behind", machine.kind(items), ListMachine.NONE);
            CHECKS.same(of + " kind 120", machine.kind(120), ListMachine.NONE);
            for (int i = -1; i <= 125; i++) {
                if (items > MOST) {
                    CHECKS.same(of + " kind " + i, machine.kind(i), ListMachine.NONE);
                    CHECKS.same(of + " number " + i, machine.number(i), 0);
                }
            }
        }
    }

    private static String sevens(int count) {
        return " 7".repeat(count);
    }

    private static void itemsAroundTheMost() {
        around("a list that ends with numbers", n -> TWICE + "(cons (d (d (d (d (d '(1)))))) '(" + sevens(n - 98) + "))",
            115, 126, 0);
        around("a list that ends with an empty one", n -> TWICE + "(cons (d (d (d (d (d '(1)))))) '(" + sevens(n - 100) + "()))",
            115, 124, 3);
        around("a list that ends with a dot and a number",
            n -> TWICE + "(cons '(" + sevens(n - 98) + ") (d (d (d (d (cons 1 (cons 2 3)))))))", 115, 124, 0);
        around("lists in lists", n -> "'".repeat(37) + "(" + sevens(n - 110) + ")", 115, 126, 3);
        around("empty lists in lists", n -> "'".repeat(37) + "(" + sevens(n - 112) + "())", 115, 126, 3);
        ListMachine machine = Texts.machine(TWICE + "(cons (d (d (d (d (d '(1)))))) '(" + sevens(21) + " 8))");
        CHECKS.same("number 118", machine.number(118), 8);
        CHECKS.same("number 117", machine.number(117), 7);
        CHECKS.same("number 119", machine.number(119), 0);
        CHECKS.same("number 120", machine.number(120), 0);
    }

    private static void isLong(String text) {
        ListMachine machine = Texts.machine(text);
        CHECKS.same(text + " run", machine.run(), ListMachine.DONE);
        CHECKS.same(text + " items", machine.items(), ListMachine.LONG);
        for (int i = -1; i <= 121; i++) {
            CHECKS.same(text + " kind", machine.kind(i), ListMachine.NONE);
            CHECKS.same(text + " number", machine.number(i), 0);
        }
    }

    /** Values that would be written without end have more than 120 items. */
    private static void neverEnding() {
        isLong("(define a '(1)) (setcdr a a) a");
        isLong("(define a '(1)) (setcar a a) a");
        isLong("(define a '(1)) (setcar a a) (setcdr a a) a");
        isLong("(define a '(1 2 3)) (setcdr (cdr (cdr a)) a) a");
        isLong("(define a '(1 2 3)) (setcar (cdr (cdr a)) a) a");
        isLong("(define a '(1)) (setcdr a a) (cons 5 a)");
        isLong("(define a '(1)) (setcar a a) (cons a 5)");
        isLong("'".repeat(69) + "1");
        CHECKS.value("(define a '(1)) (setcdr a a) (car a)", "1");
    }

    /** "kind(i): .. NONE if there is none"; "number(i): .. 0 if there is none". */
    private static void indices() {
        String[] texts = {"7", "'()", "'(7)", "(cons 7 8)", "'(7 8 9)"};
        int[] items = {1, 2, 3, 5, 5};
        for (int t = 0; t < texts.length; t++) {
            ListMachine machine = Texts.machine(texts[t]);
            CHECKS.same(texts[t] + " items", machine.items(), items[t]);
            for (int i = -3; i <= 122; i++) {
                boolean isThere = i >= 0 && i < items[t];
                CHECKS.same(texts[t] + " kind " + i, machine.kind(i) != ListMachine.NONE ? 1 : 0, isThere ? 1 : 0);
                if (!isThere) {
                    CHECKS.same(texts[t] + " number " + i, machine.number(i), 0);
                }
            }
            for (int i : FAR) {
                CHECKS.same(texts[t] + " kind " + i, machine.kind(i), ListMachine.NONE);
                CHECKS.same(texts[t] + " number " + i, machine.number(i), 0);
            }
        }
        ListMachine machine = Texts.machine("'(7 8 9)");
        CHECKS.same("numbers", 100 * machine.number(1) + 10 * machine.number(2) + machine.number(3), 789);
    }

    /** "items(): .. NONE if it is not DONE", and no item then, for each way that a run ends. */
    private static void indicesWithoutItems() {
        String[] texts = {"(", "(define a (lambda () (a))) (a)", "a", "(if)", "(1)", "(car)", "(car 1)",
            "(print ".repeat(21) + "7" + ")".repeat(21)};
        for (int ending = 1; ending <= 8; ending++) {
            String text = texts[ending - 1];
            CHECKS.same(text + " run", Texts.machine(text).run(), ending);
            withoutItems(Texts.machine(text), text);
            // A value of an earlier form, or of an earlier text, is not the run's.
            ListMachine machine = Texts.machine("'(1 2 3)");
            machine.items();
            machine.clear();
            Texts.append(machine, Texts.tokens((text.length() < 70 ? "'(7 8) " : "") + text));
            withoutItems(machine, "after others " + text);
        }
    }

    private static void withoutItems(ListMachine machine, String text) {
        CHECKS.same(text + " items", machine.items(), ListMachine.NONE);
        for (int i = -1; i <= 5; i++) {
            CHECKS.same(text + " kind " + i, machine.kind(i), ListMachine.NONE);
            CHECKS.same(text + " number " + i, machine.number(i), 0);
        }
        for (int i : FAR) {
            CHECKS.same(text + " kind " + i, machine.kind(i), ListMachine.NONE);
            CHECKS.same(text + " number " + i, machine.number(i), 0);
        }
    }

    /** "The k-th of them (0 is the first); 0 if there is none." */
    private static void outputs() {
        String loop = "(define b (lambda (a) (print a) (if (less a LAST) (b (add a 1)) 0))) (b 1)";
        for (int last = 1; last <= 22; last++) {
            ListMachine machine = Texts.machine(loop.replace("LAST", last < 20 ? "" + last : "(add 10 " + (last - 10) + ")"));
            int printed = Math.min(last, 20);
            CHECKS.same(last + " prints: run", machine.run(), last <= 20 ? ListMachine.DONE : ListMachine.FULL_UP);
            CHECKS.same(last + " prints: printed", machine.printed(), printed);
            for (int k = -2; k <= 23; k++) {
                CHECKS.same(last + " prints: output " + k, machine.output(k), k >= 0 && k < printed ? k + 1 : 0);
            }
            for (int k : FAR) {
                CHECKS.same(last + " prints: output " + k, machine.output(k), 0);
            }
        }
        ListMachine none = Texts.machine("5");
        CHECKS.same("no print: printed", none.printed(), 0);
        CHECKS.same("no print: output", none.output(0), 0);
        CHECKS.prints("(print 0) (print (sub 0 1))", 0, -1);
        CHECKS.prints("(apply print '(6)) '(print 7) (lambda () (print 8))", 6);
    }

    /** "How many numbers the run prints", whichever way it ends; what an earlier text printed is none of them. */
    private static void outputsAfterErrors() {
        String[] errors = {"a", "(if)", "(1)", "(car)", "(car 1)", "(print 'a)", "((lambda (a) (a a)) (lambda (a) (a a)))"};
        for (String error : errors) {
            CHECKS.prints("(print 4) (print 5) " + error, 4, 5);
            CHECKS.prints("(print 4) " + error + " (print 5)", 4);
            CHECKS.prints(error + " (print 4)");
        }
        CHECKS.prints("(print 4) (");
        ListMachine machine = Texts.machine("(print 4) (print 5)");
        machine.printed();
        machine.clear();
        Texts.append(machine, Texts.tokens("(print 6)"));
        CHECKS.same("printed by this text", machine.printed(), 1);
        CHECKS.same("output of this text", machine.output(0), 6);
        CHECKS.same("no output of the one before", machine.output(1), 0);
    }
}
