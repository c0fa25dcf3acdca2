/** The document's sentences about how forms are worked out and what is SYNTAX or UNBOUND of each, at their boundaries. */
public final class FormTest {
    private static final Checks CHECKS = new Checks();
    private static final int[] FORM_TOKENS = new int[53];

    static {
        int count = 0;
        for (int token = 3; token <= 64; token++) {
            if (token <= 4 || token >= 10 && token <= 45 || token >= 50) {
                FORM_TOKENS[count++] = token;
            }
        }
    }

    private FormTest() {
    }

    public static void main(String[] arguments) {
        words();
        quoteParts();
        ifParts();
        lambdaParts();
        definingParts();
        beginParts();
        numberOfNames();
        differentNames();
        whatIsAName();
        namesNoList();
        insideIsNotLookedAt();
        whatIsFalse();
        namesWithoutValue();
        settingPlaces();
        definingPlaces();
        environments();
        placesAtTheBegin();
        lastForm();
        CHECKS.end();
    }

    /** SYNTAX before anything in the form is worked out: one is counted, and nothing is printed. */
    private static void syntax(String text) {
        CHECKS.ends(text, ListMachine.SYNTAX);
        CHECKS.counts(text, 1, 0, 0);
        CHECKS.prints(text);
    }

    private static String parts(int count) {
        return " (print 1)".repeat(count);
    }

    private static void prints(String text, int due) {
        ListMachine machine = Texts.machine(text);
        CHECKS.same(text + " run", machine.run(), ListMachine.DONE);
        CHECKS.same(text + " printed", machine.printed(), due);
    }

    /** "A word, or the empty list: SYNTAX." */
    private static void words() {
        for (String word : new String[] {"quote", "if", "lambda", "define", "set", "begin"}) {
            syntax(word);
            syntax("(" + word + ")");
            CHECKS.ends("(add 1 " + word + ")", ListMachine.SYNTAX);
            CHECKS.endsAt("((begin " + word + ") 1)", ListMachine.SYNTAX, 3);
            CHECKS.endsAt("('" + word + " 1)", ListMachine.NO_PROCEDURE, 4);
        }
        syntax("()");
        CHECKS.endsAt("(())", ListMachine.SYNTAX, 2);
        CHECKS.endsAt("(() 1)", ListMachine.SYNTAX, 2);
        CHECKS.value("'()", "( )");
    }

    /** "(quote D): D." */
    private static void quoteParts() {
        syntax("(quote)");
        CHECKS.value("(quote (print 1))", "( print 1 )");
        prints("(quote (print 1))", 0);
        syntax("(quote (print 1) (print 1))");
        syntax("(quote 1 2 3)");
    }

    /** "(if C X Y), (if C X)": two or three. */
    private static void ifParts() {
        syntax("(if)");
        syntax("(if" + parts(1) + ")");
        prints("(if" + parts(2) + ")", 2);
        prints("(if" + parts(3) + ")", 2);
        syntax("(if" + parts(4) + ")");
        syntax("(if" + parts(5) + ")");
        syntax("(if false" + parts(3) + ")");
        prints("(if false" + parts(1) + ")", 0);
        prints("(if false" + parts(2) + ")", 1);
        CHECKS.value("(if false 1)", "_");
        CHECKS.value("(if false 1 2)", "2");
        CHECKS.value("(if true 1 2)", "1");
        CHECKS.value("(if true 1)", "1");
    }

    /** "(lambda (N ..) X .., one X at least)". */
    private static void lambdaParts() {
        syntax("(lambda)");
        for (String names : new String[] {"()", "(a)", "(a b c d)"}) {
            syntax("(lambda " + names + ")");
            for (int forms = 1; forms <= 4; forms++) {
                CHECKS.value("(lambda " + names + parts(forms) + ")", "*");
                prints("(lambda " + names + parts(forms) + ")", 0);
            }
        }
        prints("((lambda ()" + parts(1) + "))", 1);
        prints("((lambda ()" + parts(4) + "))", 4);
    }

    /** "(define N X)", "(set N X)": one X, no less and no more. */
    private static void definingParts() {
        for (String word : new String[] {"define", "set"}) {
            syntax("(" + word + ")");
            syntax("(" + word + " a)");
            syntax("(" + word + " a" + parts(2) + ")");
            syntax("(" + word + " a" + parts(3) + ")");
            syntax("(" + word + parts(1) + ")");
        }
        prints("(define a" + parts(1) + ")", 1);
        prints("(define a 5) (set a" + parts(1) + ")", 1);
        CHECKS.value("(define a 5)", "_");
        CHECKS.value("(define a 5) (set a 6)", "_");
        CHECKS.value("(define a 5) (set a 6) a", "6");
    }

    /** "(begin X .., one X at least): they are worked out in order; the value of the last." */
    private static void beginParts() {
        syntax("(begin)");
        CHECKS.value("(begin 4)", "4");
        CHECKS.value("(begin 4 5)", "5");
        CHECKS.prints("(begin (print 3) (print 4) (print 5))", 3, 4, 5);
        for (int forms = 1; forms <= 10; forms++) {
            prints("(begin" + parts(forms) + ")", forms);
        }
    }

    /** "N .. being .. names, four at most". */
    private static void numberOfNames() {
        String names = "";
        for (int count = 0; count <= 10; count++) {
            String text = "(lambda (" + names + ") (print 1))";
            if (count <= 4) {
                CHECKS.value(text, "*");
            } else {
                syntax(text);
            }
            names += " " + (char) ('a' + count);
        }
        CHECKS.value("((lambda (a b c d) (cons (cons a b) (cons c d))) 1 2 3 4)", "( ( 1 . 2 ) 3 . 4 )");
        CHECKS.value("((lambda (j i h g) (cons (cons j i) (cons h g))) 1 2 3 4)", "( ( 1 . 2 ) 3 . 4 )");
    }

    /** "N .. being different names", at each two of the four. */
    private static void differentNames() {
        for (int i = 0; i < 4; i++) {
            for (int j = i + 1; j < 4; j++) {
                for (int count = j + 1; count <= 4; count++) {
                    char[] names = {'a', 'b', 'i', 'j'};
                    names[j] = names[i];
                    StringBuilder list = new StringBuilder();
                    for (int k = 0; k < count; k++) {
                        list.append(' ').append(names[k]);
                    }
                    syntax("(lambda (" + list + ") 1)");
                }
            }
        }
        syntax("(lambda (j j) 1)");
        for (char name = 'a'; name < 'j'; name++) {
            syntax("(lambda (" + name + " " + name + ") 1)");
            CHECKS.value("(lambda (" + name + " " + (char) (name + 1) + ") 1)", "*");
        }
    }

    private static int[] with(String text, int token) {
        int[] tokens = Texts.tokens(text);
        for (int i = 0; i < tokens.length; i++) {
            tokens[i] = tokens[i] == 39 ? token : tokens[i];
        }
        return tokens;
    }

    private static void nameOrSyntax(String text, int token, int counted) {
        ListMachine machine = Texts.machine(with(text, token));
        boolean isName = token >= 30 && token <= 39;
        CHECKS.same(text + " with token " + token + " run", machine.run(), isName ? ListMachine.DONE : ListMachine.SYNTAX);
        CHECKS.same(text + " with token " + token + " counted", machine.counted(), isName ? counted : 1);
    }

    /** "with N no name (of 30 to 39): SYNTAX", for each other token, and each place of a name. The name j stands for it. */
    private static void whatIsAName() {
        for (int token : FORM_TOKENS) {
            nameOrSyntax("(define j 5)", token, 2);
            nameOrSyntax("(lambda (j) 5)", token, 1);
            if (token != 30) {
                nameOrSyntax("(lambda (a j) 5)", token, 1);
                nameOrSyntax("(lambda (j a) 5)", token, 1);
            }
            if (token < 30 || token > 32) {
                nameOrSyntax("(lambda (a b c j) 5)", token, 1);
            }
            boolean isName = token >= 30 && token <= 39;
            ListMachine machine = Texts.machine(with("(set j 5)", token));
            CHECKS.same("set " + token, machine.run(), isName ? ListMachine.UNBOUND : ListMachine.SYNTAX);
            CHECKS.same("set " + token + " counted", machine.counted(), isName ? 2 : 1);
        }
        for (String list : new String[] {"()", "(a)", "'a", "(a b)"}) {
            syntax("(define " + list + " (print 1))");
            syntax("(set " + list + " (print 1))");
            syntax("(lambda (" + list + ") (print 1))");
            syntax("(lambda (a " + list + ") (print 1))");
            syntax("(lambda (b c d " + list + ") (print 1))");
        }
    }

    /** "(lambda (N ..) ..": what stands for the names is a list. */
    private static void namesNoList() {
        for (int token : FORM_TOKENS) {
            ListMachine machine = Texts.machine(with("(lambda j 5)", token));
            CHECKS.same("names " + token, machine.run(), ListMachine.SYNTAX);
            CHECKS.same("names " + token + " counted", machine.counted(), 1);
        }
        syntax("(lambda 'a 5)");
        CHECKS.value("(lambda () 5)", "*");
    }

    /** "SYNTAX, before anything in them is worked out": of the form itself, not of those inside it. */
    private static void insideIsNotLookedAt() {
        CHECKS.value("(lambda () (quote))", "*");
        CHECKS.ends("((lambda () (quote)))", ListMachine.SYNTAX);
        CHECKS.value("(if true 1 (quote))", "1");
        CHECKS.value("(if false (quote) 2)", "2");
        CHECKS.value("(quote (quote))", "( quote )");
        CHECKS.endsAt("(begin (print 1) (if))", ListMachine.SYNTAX, 6);
        CHECKS.prints("(begin (print 1) (if))", 1);
        CHECKS.endsAt("(define a (set))", ListMachine.SYNTAX, 2);
        CHECKS.endsAt("(add (print 1) (lambda))", ListMachine.SYNTAX, 7);
    }

    /** "if it is false Y, or nothing, else X": every other value is not false. */
    private static void whatIsFalse() {
        for (String form : Samples.all()) {
            boolean isFalse = form.equals("false");
            CHECKS.value("(if " + form + " 7 8)", isFalse ? "8" : "7");
            CHECKS.value("(if " + form + " 7)", isFalse ? "_" : "7");
        }
        CHECKS.value("(if 'false 7 8)", "8");
        CHECKS.value("(if (less 1 1) 7 8)", "8");
    }

    /** "Name: the value at its innermost place; UNBOUND if it has none", and "places .. which have no value at first". */
    private static void namesWithoutValue() {
        for (char name = 'a'; name <= 'j'; name++) {
            CHECKS.ends("" + name, ListMachine.UNBOUND);
            CHECKS.counts("" + name, 1, 0, 0);
            CHECKS.value("(define " + name + " 4) " + name, "4");
            CHECKS.value("((lambda (" + name + ") " + name + ") 4)", "4");
            CHECKS.ends("((lambda (" + name + ") 1) 4) " + name, ListMachine.UNBOUND);
            char next = name == 'j' ? 'a' : (char) (name + 1);
            CHECKS.ends("(define " + name + " 4) " + next, ListMachine.UNBOUND);
            CHECKS.ends("((lambda (" + name + ") " + next + ") 4)", ListMachine.UNBOUND);
        }
        for (String form : Samples.all()) {
            CHECKS.same("a place with " + form, Texts.machine("(define c " + form + ") c").run(), ListMachine.DONE);
            CHECKS.same("a new place with " + form, Texts.machine("((lambda (c) c) " + form + ")").run(), ListMachine.DONE);
        }
    }

    /** "(set N X): X is worked out, N's innermost place gets the value, UNBOUND if that is the global one and has none". */
    private static void settingPlaces() {
        CHECKS.ends("(set a 1)", ListMachine.UNBOUND);
        CHECKS.ends("(set a (print 1))", ListMachine.UNBOUND);
        CHECKS.prints("(set a (print 1))", 1);
        CHECKS.endsAt("(set a (car 1))", ListMachine.TYPE, 5);
        CHECKS.value("(define a 5) (set a 6) a", "6");
        CHECKS.value("(define a (if false 1)) (set a 6) a", "6");
        CHECKS.value("(define a false) (set a 6) a", "6");
        CHECKS.value("(set a (begin (define a 1) 2)) a", "2");
        CHECKS.value("((lambda (a) (set a 6) a) 5)", "6");
        CHECKS.ends("((lambda (a) (set a 6)) 5) a", ListMachine.UNBOUND);
        CHECKS.value("(define a 4) ((lambda (a) (set a 6)) 5) a", "4");
        CHECKS.value("((lambda (a) ((lambda (b) (set a 6)) 1) a) 5)", "6");
        CHECKS.value("((lambda (a) ((lambda (a) (set a 6)) 1) a) 5)", "5");
        CHECKS.ends("((lambda (a) (set b 6)) 5)", ListMachine.UNBOUND);
        CHECKS.value("((lambda (a b) ((lambda (a) (set a 7) (set b a)) 3) (cons a b)) 1 2)", "( 1 . 7 )");
        CHECKS.value("(define b 1) ((lambda (a) (set b a)) 5) b", "5");
    }

    /** "(define N X): .. N's global place gets the value", wherever it is worked out. */
    private static void definingPlaces() {
        CHECKS.value("(define a 5) (define a 6) a", "6");
        CHECKS.value("((lambda (a) (define a 6) a) 5)", "5");
        CHECKS.value("((lambda (a) (define a 6)) 5) a", "6");
        CHECKS.value("((lambda (a) (define b 6)) 5) b", "6");
        CHECKS.ends("(define a a)", ListMachine.UNBOUND);
        CHECKS.value("(define a 1) (define a (add a 1)) a", "2");
        CHECKS.ends("(if false (define a 1)) a", ListMachine.UNBOUND);
    }

    /** "an environment of new places with these values within the one kept". */
    private static void environments() {
        CHECKS.value("(define a 1) (define f (lambda () a)) ((lambda (a) (f)) 2)", "1");
        CHECKS.value("(((lambda (a) (lambda (b) (sub a b))) 9) 4)", "5");
        CHECKS.value("(((lambda (a) (lambda () (set a (add a 1)) a)) 9))", "10");
        CHECKS.value("(define c (lambda (a) (lambda () (set a (add a 1)) a))) (define d (c 5)) (define e (c 7)) (d) (d) "
            + "(cons (d) (e))", "( 8 . 8 )");
        CHECKS.value("((lambda (a b) ((lambda (b a) (cons a b)) a b)) 1 2)", "( 2 . 1 )");
    }

    /** "the global environment, all of whose places have no value at its begin", however an earlier run ended. */
    private static void placesAtTheBegin() {
        String[] before = {"(define a 5) a", "(define a 5) (car 1)", "((lambda (a) (car a)) 5)", "((lambda (a) (a)) 5)",
            "((lambda (a b c d) e) 1 2 3 4)", "(define a (callcc (lambda (b) b))) (a a)", "(define a (lambda (b) (a b))) (a 1)",
            "((lambda (a) (define b a)) 5)"};
        for (String text : before) {
            for (char name = 'a'; name <= 'e'; name++) {
                ListMachine machine = Texts.machine(text);
                machine.run();
                machine.clear();
                Texts.append(machine, Texts.tokens("" + name));
                CHECKS.same(name + " after " + text, machine.run(), ListMachine.UNBOUND);
                machine.clear();
                Texts.append(machine, Texts.tokens("(set " + name + " 1)"));
                CHECKS.same("set " + name + " after " + text, machine.run(), ListMachine.UNBOUND);
                machine.clear();
                Texts.append(machine, Texts.tokens("(define " + name + " 7) " + name));
                CHECKS.same("define " + name + " after " + text, Texts.written(machine), "7");
            }
        }
        ListMachine again = Texts.machine("(if true (define a 1)) (set a (add a 1)) a");
        for (int i = 0; i < 3; i++) {
            CHECKS.same("the same text again", Texts.written(again), "2");
        }
    }

    /** "Its VALUE is that of the last form (nothing if there is none)." */
    private static void lastForm() {
        CHECKS.value("", "_");
        CHECKS.value("1", "1");
        CHECKS.value("1 2", "2");
        CHECKS.value("1 (define a 2)", "_");
        CHECKS.value("1 ".repeat(69) + "2", "2");
        CHECKS.ends("a 2", ListMachine.UNBOUND);
        CHECKS.ends("1 a", ListMachine.UNBOUND);
        CHECKS.prints("(print 1) a (print 2)", 1);
    }
}
