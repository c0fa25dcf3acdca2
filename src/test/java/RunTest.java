/** Promise 7, and the terms behind it: how forms are worked out, and how runs end. */
public final class RunTest {
    private static final Checks CHECKS = new Checks();

    private RunTest() {
    }

    public static void main(String[] arguments) {
        quoting();
        choosing();
        procedures();
        sequences();
        applying();
        pairs();
        arithmetic();
        applyingToLists();
        repeatedRuns();
        otherTextsBefore();
        firstQuestions();
        CHECKS.end();
    }

    private static void quoting() {
        CHECKS.value("'()", "( )");
        CHECKS.value("(quote 4)", "4");
        CHECKS.value("'car", "car");
        CHECKS.value("'j", "j");
        CHECKS.value("'true", "true");
        CHECKS.value("''a", "( quote a )");
        CHECKS.value("'(quote a)", "( quote a )");
        CHECKS.value("'''5", "( quote ( quote 5 ) )");
        CHECKS.value("'(1 '2 () (a (b)) if)", "( 1 ( quote 2 ) ( ) ( a ( b ) ) if )");
        CHECKS.value("(car ''a)", "quote");
        CHECKS.value("(define f (lambda () '(1 2))) (setcar (f) 9) (f)", "( 9 2 )");
        CHECKS.value("(define f (lambda () '(1 2))) (same (f) (f))", "true");
        CHECKS.value("(same '(1) '(1))", "false");
    }

    private static void choosing() {
        CHECKS.value("(if true 1 2)", "1");
        CHECKS.value("(if false 1 2)", "2");
        CHECKS.value("(if 0 1 2)", "1");
        CHECKS.value("(if '() 1 2)", "1");
        CHECKS.value("(if (if false 1) 1 2)", "1");
        CHECKS.value("(if 'false 1 2)", "2");
        CHECKS.value("(if true 1)", "1");
        CHECKS.value("(if false 1)", "_");
        CHECKS.value("(if true 1 a)", "1");
        CHECKS.value("(if false a 2)", "2");
        CHECKS.value("(if false a)", "_");
        CHECKS.value("(if true 1 (quote))", "1");
        CHECKS.ends("(if a 1 2)", ListMachine.UNBOUND);
        CHECKS.value("(add 1 (if (less 2 1) 5 (if true 6 7)))", "7");
    }

    private static void procedures() {
        CHECKS.value("((lambda (a) (add a 1)) 4)", "5");
        CHECKS.value("((lambda () 3))", "3");
        CHECKS.value("((lambda (a b c d) (sub (sub d c) (sub b a))) 1 5 2 10)", "4");
        CHECKS.value("((lambda (a) (print a) (add a a)) 4)", "8");
        CHECKS.value("(((lambda (a) (lambda (b) (sub a b))) 9) 4)", "5");
        CHECKS.value("(define a 1) (define f (lambda () a)) ((lambda (a) (f)) 2)", "1");
        CHECKS.value("((lambda (a) ((lambda (a) a) 2)) 1)", "2");
        CHECKS.value("((lambda (a) ((lambda (b) a) 2)) 1)", "1");
        CHECKS.value("(define f (lambda (a) (if (less a 1) 0 (add a (f (sub a 1)))))) (f 9)", "45");
        CHECKS.value("(define c (lambda (a) (lambda () (set a (add a 1)) a))) (define d (c 5)) (define e (c 7)) (d) (d) "
            + "(cons (d) (e))", "( 8 . 8 )");
        CHECKS.ends("((lambda (a) b) 1)", ListMachine.UNBOUND);
        CHECKS.ends("((lambda (a) a) 1) a", ListMachine.UNBOUND);
        CHECKS.value("(lambda (a) b)", "*");
        CHECKS.ends("((lambda (a) a))", ListMachine.ARGUMENTS);
        CHECKS.ends("((lambda (a) a) 1 2)", ListMachine.ARGUMENTS);
        CHECKS.ends("((lambda (a b c d) a) 1 2 3)", ListMachine.ARGUMENTS);
    }

    private static void sequences() {
        CHECKS.value("(begin 1)", "1");
        CHECKS.value("(begin 1 2 3)", "3");
        CHECKS.prints("(begin (print 1) (print 2) (print 3))", 1, 2, 3);
        CHECKS.value("1 2 3", "3");
        CHECKS.prints("(begin false (print 1) (print 2))", 1, 2);
        CHECKS.prints("false (print 1) (print 2)", 1, 2);
        CHECKS.prints("((lambda () false (print 1) (print 2)))", 1, 2);
        CHECKS.prints("(print 4) (begin (print 5)) (print 6)", 4, 5, 6);
        CHECKS.ends("a 1", ListMachine.UNBOUND);
        CHECKS.prints("(print 1) a (print 2)", 1);
        CHECKS.ends("(begin a 1)", ListMachine.UNBOUND);
    }

    private static void applying() {
        CHECKS.prints("((begin (print 1) add) (print 2) (print 3))", 1, 2, 3);
        CHECKS.ends("(1)", ListMachine.NO_PROCEDURE);
        CHECKS.ends("(1 2 3)", ListMachine.NO_PROCEDURE);
        CHECKS.ends("(true)", ListMachine.NO_PROCEDURE);
        CHECKS.ends("('car '(1))", ListMachine.NO_PROCEDURE);
        CHECKS.ends("('(1) 0)", ListMachine.NO_PROCEDURE);
        CHECKS.ends("('() 0)", ListMachine.NO_PROCEDURE);
        CHECKS.ends("('if 1 2 3)", ListMachine.NO_PROCEDURE);
        CHECKS.ends("((if false 1))", ListMachine.NO_PROCEDURE);
        CHECKS.ends("(1 a)", ListMachine.UNBOUND);
        CHECKS.ends("(a (car 1))", ListMachine.UNBOUND);
        CHECKS.value("(define a cons) (a 1 2)", "( 1 . 2 )");
        CHECKS.value("((if true add sub) 5 3)", "8");
    }

    private static void pairs() {
        CHECKS.value("(cons 1 2)", "( 1 . 2 )");
        CHECKS.value("(cons 1 '())", "( 1 )");
        CHECKS.value("(cons 1 '(2 3))", "( 1 2 3 )");
        CHECKS.value("(car '(1 2))", "1");
        CHECKS.value("(cdr '(1 2))", "( 2 )");
        CHECKS.value("(cdr '(1))", "( )");
        CHECKS.value("(cdr (cons 1 2))", "2");
        CHECKS.value("(define a '(1 2)) (setcar a 5)", "_");
        CHECKS.value("(define a '(1 2)) (setcdr a 5)", "_");
        CHECKS.value("(define a '(1 2)) (setcar a 5) a", "( 5 2 )");
        CHECKS.value("(define a '(1 2)) (setcdr a 5) a", "( 1 . 5 )");
        CHECKS.value("(define a '(1 2)) (define b (cons 0 a)) (setcar a 7) b", "( 0 7 2 )");
    }

    private static void arithmetic() {
        CHECKS.value("(add 2 3)", "5");
        CHECKS.value("(sub 2 3)", "-1");
        CHECKS.value("(mul 4 5)", "20");
        CHECKS.value("(mul (sub 0 4) 5)", "-20");
        CHECKS.value("(less 2 3)", "true");
        CHECKS.value("(less 3 3)", "false");
        CHECKS.value("(less 4 3)", "false");
        CHECKS.value("(less (sub 0 1) 0)", "true");
        String billion = "(define a (mul 10 (mul 10 10))) (define b (mul a (mul a a))) ";
        CHECKS.value(billion + "(add b (add b b))", "-1294967296");
        CHECKS.value(billion + "(mul b 3)", "-1294967296");
        CHECKS.value(billion + "(sub (sub 0 (add b b)) b)", "1294967296");
        CHECKS.value(billion + "(less (mul b 3) b)", "true");
        CHECKS.value(billion + "(mul b b)", "-1486618624");
    }

    private static void applyingToLists() {
        CHECKS.value("(apply add '(1 2))", "3");
        CHECKS.value("(apply (lambda () 4) '())", "4");
        CHECKS.value("(apply (lambda (a b c d) (cons d (cons c (cons b a)))) '(1 2 3 4))", "( 4 3 2 . 1 )");
        CHECKS.value("(apply apply (cons add (cons '(1 2) '())))", "3");
        CHECKS.value("(apply car '((1 2)))", "1");
        CHECKS.value("(define a '(1 2)) (apply (lambda (b c) (setcar a 9) b) a)", "1");
        CHECKS.ends("(apply add '(1))", ListMachine.ARGUMENTS);
        CHECKS.ends("(apply add '(1 2 3))", ListMachine.ARGUMENTS);
        CHECKS.ends("(apply add 1)", ListMachine.TYPE);
        CHECKS.ends("(apply add (cons 1 2))", ListMachine.TYPE);
        CHECKS.ends("(apply add (cons 1 (cons 2 3)))", ListMachine.TYPE);
        CHECKS.ends("(apply add 'a)", ListMachine.TYPE);
        CHECKS.ends("(apply 1 2)", ListMachine.TYPE);
        CHECKS.ends("(apply 1 '())", ListMachine.NO_PROCEDURE);
        CHECKS.ends("(apply 'add '(1 2))", ListMachine.NO_PROCEDURE);
        CHECKS.ends("(define a '(1 2)) (setcdr (cdr a) a) (apply add a)", ListMachine.TYPE);
        CHECKS.ends("(define a '(1)) (setcdr a a) (apply add a)", ListMachine.TYPE);
        CHECKS.ends("(define a '(1 2 3)) (setcdr (cdr (cdr a)) (cdr a)) (apply add a)", ListMachine.TYPE);
    }

    private static void repeatedRuns() {
        ListMachine machine = Texts.machine("(define a '(1 2)) (setcar a (add (car a) 1)) (print (car a)) a");
        for (int i = 0; i < 3; i++) {
            CHECKS.same("run " + i, machine.run(), ListMachine.DONE);
            CHECKS.same("value " + i, Texts.written(machine), "( 2 2 )");
            CHECKS.same("printed " + i, machine.printed(), 1);
        }
        machine.clear();
        Texts.append(machine, Texts.tokens("a"));
        CHECKS.same("places have no value in a new run", machine.run(), ListMachine.UNBOUND);
        machine.untoken();
        Texts.append(machine, Texts.tokens("(cons 1 2) 5"));
        CHECKS.same("answered without a call of run", machine.conses(), 1);
        CHECKS.same("the value likewise", Texts.written(machine), "5");
        machine.untoken();
        CHECKS.same("the value of the text as it is now", Texts.written(machine), "( 1 . 2 )");
    }

    /** Nothing of an earlier run is left, however it ended. */
    private static void otherTextsBefore() {
        String[] before = {"(", "(car (cdr (car 1)))", "((lambda (a) (add 1 (car a))) 5)", "(define a 5) (set b 6)",
            "((lambda (a b) (a b)) 1 2)", "(callcc (lambda (a) (a)))", "(define a (lambda () (add 1 (a)))) (a)",
            "(define a '(1)) (setcdr a a) a", "'(4 5 6 7 8)", "(print 4) (cons 1 2) (callcc (lambda (a) (a (lambda () 1))))"};
        for (String text : before) {
            ListMachine machine = Texts.machine(text);
            machine.items();
            machine.clear();
            Texts.append(machine, Texts.tokens("9"));
            CHECKS.same("after " + text + " run", machine.run(), ListMachine.DONE);
            CHECKS.same("after " + text + " value", Texts.written(machine), "9");
            CHECKS.same("after " + text + " kind", machine.kind(1), ListMachine.NONE);
            CHECKS.same("after " + text + " number", machine.number(1), 0);
            CHECKS.same("after " + text + " number", machine.number(2), 0);
            CHECKS.same("after " + text + " output", machine.output(0), 0);
            CHECKS.same("after " + text + " counted", machine.counted(), 1);
            CHECKS.same("after " + text + " others", machine.printed() + machine.conses() + machine.entries(), 0);
            machine.clear();
            Texts.append(machine, Texts.tokens("a"));
            CHECKS.same("after " + text + " name", machine.run(), ListMachine.UNBOUND);
        }
    }

    /** Each question is the first one about its text, and so can't lean on another's run. */
    private static void firstQuestions() {
        String text = "(callcc (lambda (a) (print 4) (a (cons 5 6))))";
        CHECKS.same("run first", Texts.machine(text + "b").run(), ListMachine.UNBOUND);
        CHECKS.same("items first", Texts.machine(text).items(), 5);
        CHECKS.same("kind first", Texts.machine(text).kind(2), 4);
        CHECKS.same("number first", Texts.machine(text).number(3), 6);
        CHECKS.same("printed first", Texts.machine(text).printed(), 1);
        CHECKS.same("output first", Texts.machine(text).output(0), 4);
        CHECKS.same("counted first", Texts.machine(text).counted(), 17);
        CHECKS.same("conses first", Texts.machine(text).conses(), 1);
        CHECKS.same("entries first", Texts.machine(text).entries(), 1);
    }
}
