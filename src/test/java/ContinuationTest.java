/** Promises 7 and 15: continuations, entered from inside, from outside, and again and again. */
public final class ContinuationTest {
    private static final Checks CHECKS = new Checks();

    private ContinuationTest() {
    }

    public static void main(String[] arguments) {
        escaping();
        entering();
        valuesAreKept();
        placesAreNotTakenBack();
        sameness();
        throughOthers();
        tasks();
        wrongUse();
        CHECKS.end();
    }

    private static void escaping() {
        CHECKS.value("(callcc (lambda (a) 5))", "5");
        CHECKS.counts("(callcc (lambda (a) 5))", 6, 0, 0);
        CHECKS.value("(add 1 (callcc (lambda (a) (add 10 (a 5)))))", "6");
        CHECKS.counts("(add 1 (callcc (lambda (a) (add 10 (a 5)))))", 16, 0, 1);
        CHECKS.prints("(print (callcc (lambda (a) (print 1) (a 2) (print 3))))", 1, 2);
        CHECKS.value("(callcc (lambda (a) a))", "*");
        CHECKS.value("(callcc ispair)", "false");
        CHECKS.value("(car (callcc (lambda (a) (cdr (a '(1 2))))))", "1");
    }

    private static void entering() {
        String twice = "(define a 0) (define b (callcc (lambda (c) c))) (set a (add a 1)) (print a) (if (less a 3) (b b)) 'd";
        CHECKS.value(twice, "d");
        CHECKS.prints(twice, 1, 2, 3);
        CHECKS.same("entries", Texts.machine(twice).entries(), 2);
        CHECKS.value("(define a (callcc (lambda (b) b))) (if (ispair a) (car a) (a '(7)))", "7");
        CHECKS.value("(define b (callcc (lambda (c) c))) (if (same b 4) 9 (b 4))", "9");
        CHECKS.prints("(define a 5) (print (callcc (lambda (c) (set a c) 1))) (print 2) (if (same a 0) 0 "
            + "((lambda (b) (set a 0) (b 3)) a)) (print 4)", 1, 2, 3, 2, 4);
        CHECKS.value("((lambda (a) ((lambda (b) (set a (add a 1)) (if (less a 4) (b b) a)) (callcc (lambda (c) c)))) 0)", "4");
        CHECKS.value("(define a 1) (begin (define b (callcc (lambda (c) c))) (set a (add a a)) (if (less a 9) (b b) a))", "16");
    }

    /** Values worked out before the continuation was made are the old ones, those behind it are worked out anew. */
    private static void valuesAreKept() {
        String text = "(define a 1) (define b (cons a (cons (callcc (lambda (c) (set a c) 2)) (cons a '())))) "
            + "(if (less 2 (car (cdr b))) b (a 3))";
        CHECKS.value(text, "( 1 3 * )");
        CHECKS.prints("(define a 0) (define b 0) (define c (add (begin (set b (add b 10)) b) "
            + "(callcc (lambda (d) (set a d) 1)))) (print c) (if (less c 14) (a 5)) (print b)", 11, 15, 10);
        CHECKS.prints("(define g 0) (print (sub 10 (sub (callcc (lambda (h) (set g h) 2)) (print 9)))) "
            + "(if (ispair g) 0 ((lambda (i) (set g '(1)) (i 5)) g))", 9, 17, 9, 14);
    }

    private static void placesAreNotTakenBack() {
        CHECKS.value("(define a 0) (define b '(0)) (define c (callcc (lambda (d) d))) (setcar b (add (car b) 5)) "
            + "(if (less (car b) 15) (c c)) b", "( 15 )");
        CHECKS.value("((lambda (a) (define b (callcc (lambda (c) c))) (set a (add a 1)) (if (less a 5) (b b) a)) 0)", "5");
    }

    private static void sameness() {
        CHECKS.value("(callcc (lambda (a) (same a a)))", "true");
        CHECKS.value("(same (callcc (lambda (a) a)) (callcc (lambda (a) a)))", "false");
        CHECKS.value("(callcc (lambda (a) (callcc (lambda (b) (same a b)))))", "false");
        CHECKS.value("(define a '()) (define b (lambda () (callcc (lambda (c) (set a (cons c a)))))) (b) (b) "
            + "(same (car a) (car (cdr a)))", "false");
    }

    private static void throughOthers() {
        CHECKS.value("(apply callcc (cons (lambda (a) (add 1 (a 2))) '()))", "2");
        CHECKS.value("(add 1 (apply callcc (cons (lambda (a) (apply a '(2))) '())))", "3");
        CHECKS.value("(add 1 (callcc (lambda (a) (apply a (cons 5 '())))))", "6");
        CHECKS.value("(callcc callcc)", "*");
        CHECKS.counts("(callcc callcc)", 6, 0, 1);
        CHECKS.ends("((callcc callcc) 5)", ListMachine.NO_PROCEDURE);
        CHECKS.counts("((callcc callcc) 5)", 11, 0, 2);
        CHECKS.value("(callcc (callcc (lambda (a) a)))", "*");
        CHECKS.value("((callcc (lambda (a) a)) (lambda (b) 3))", "3");
    }

    /** A continuation of an application in each place that a form can stand in. */
    private static void tasks() {
        CHECKS.value("(if (callcc (lambda (a) (a false))) 1 2)", "2");
        CHECKS.value("(if true (callcc (lambda (a) (a 3))) 2)", "3");
        CHECKS.value("(define b (callcc (lambda (a) (a 4)))) b", "4");
        CHECKS.value("((lambda (b) (set b (callcc (lambda (a) (a 5)))) b) 1)", "5");
        CHECKS.value("(begin (callcc (lambda (a) (a 5))) 6)", "6");
        CHECKS.value("((callcc (lambda (a) (a add))) 1 2)", "3");
        CHECKS.value("((lambda (a b) ((lambda (c) (set a (callcc (lambda (d) (set b d) c))) (if (less a 9) (b 9) (cons a c))) 5)) 1 2)",
            "( 9 . 5 )");
        CHECKS.value("(define d 0) (define a (define b (callcc (lambda (c) (set d c) 1)))) (if (same b 1) (d 2)) (cons a b)",
            "( _ . 2 )");
    }

    private static void wrongUse() {
        CHECKS.ends("(callcc 5)", ListMachine.NO_PROCEDURE);
        CHECKS.counts("(callcc 5)", 5, 0, 0);
        CHECKS.ends("(callcc (lambda () 5))", ListMachine.ARGUMENTS);
        CHECKS.ends("(callcc (lambda (a b) 5))", ListMachine.ARGUMENTS);
        CHECKS.ends("(callcc cons)", ListMachine.ARGUMENTS);
        CHECKS.ends("(callcc print)", ListMachine.TYPE);
        CHECKS.ends("(callcc car)", ListMachine.TYPE);
    }
}
