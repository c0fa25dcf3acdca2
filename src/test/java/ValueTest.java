/** The document's sentences about values, when two are the same, and arithmetic that wraps, at their boundaries. */
public final class ValueTest {
    private static final Checks CHECKS = new Checks();

    /** c is the least int; (sub c 1) wraps to the greatest. */
    private static final String LEAST = "(define a (mul 16 16)) (define c (mul (mul a a) (mul a (mul 16 8)))) ";
    private static final String GREATEST = "(sub c 1)";
    private static final String MIN = String.valueOf(Integer.MIN_VALUE);
    private static final String MAX = String.valueOf(Integer.MAX_VALUE);

    private ValueTest() {
    }

    public static void main(String[] arguments) {
        ends();
        sums();
        differences();
        products();
        less();
        sameOfEachTwo();
        sameAsItself();
        sameNumbers();
        sameProcedures();
        sameContinuations();
        samePairs();
        CHECKS.end();
    }

    private static void value(String form, String due) {
        CHECKS.value(LEAST + form, due);
    }

    /** "numbers (ints, ..)": the least and the greatest one can be had, written and printed. */
    private static void ends() {
        value("c", MIN);
        value(GREATEST, MAX);
        value("(cons c (sub c 1))", "( " + MIN + " . " + MAX + " )");
        CHECKS.prints(LEAST + "(print c) (print (sub c 1)) (print (add c 1))", Integer.MIN_VALUE, Integer.MAX_VALUE,
            Integer.MIN_VALUE + 1);
        value("(print c)", MIN);
    }

    /** "arithmetic wraps": add. */
    private static void sums() {
        value("(add (sub c 2) 1)", MAX);
        value("(add (sub c 1) 0)", MAX);
        value("(add (sub c 1) 1)", MIN);
        value("(add 1 (sub c 1))", MIN);
        value("(add (sub c 1) 2)", "-2147483647");
        value("(add (sub c 1) (sub c 1))", "-2");
        value("(add (sub c 1) c)", "-1");
        value("(add c c)", "0");
        value("(add c (sub 0 1))", MAX);
        value("(add (add c 1) (sub 0 1))", MIN);
    }

    /** "arithmetic wraps": sub. */
    private static void differences() {
        value("(sub (add c 1) 1)", MIN);
        value("(sub c 0)", MIN);
        value("(sub c 1)", MAX);
        value("(sub c 2)", "2147483646");
        value("(sub 0 (sub c 1))", "-2147483647");
        value("(sub 0 c)", MIN);
        value("(sub (sub 0 1) c)", MAX);
        value("(sub (sub c 1) (sub 0 1))", MIN);
        value("(sub c (sub c 1))", "1");
        value("(sub (sub c 1) c)", "-1");
        value("(sub c c)", "0");
    }

    /** "arithmetic wraps": mul. */
    private static void products() {
        value("(mul c 1)", MIN);
        value("(mul c 2)", "0");
        value("(mul c 3)", MIN);
        value("(mul c c)", "0");
        value("(mul c (sub 0 1))", MIN);
        value("(mul (sub c 1) (sub 0 1))", "-2147483647");
        value("(mul (sub c 1) 2)", "-2");
        value("(mul (sub c 1) (sub c 1))", "1");
        value("(mul (sub c 1) 0)", "0");
        // 2 to the power of 16: its square is the first that needs more than 32 bits.
        value("((lambda (d) (cons (mul d d) (mul d (sub d 1)))) (mul a a))", "( 0 . -65536 )");
        value("((lambda (d) (mul d (mul d 2))) (mul a (mul 16 8)))", MIN);
    }

    /** less compares ints, without wrapping. */
    private static void less() {
        value("(less c (sub c 1))", "true");
        value("(less (sub c 1) c)", "false");
        value("(less c c)", "false");
        value("(less c (add c 1))", "true");
        value("(less (add c 1) c)", "false");
        value("(less (sub c 2) (sub c 1))", "true");
        value("(less (sub c 1) (sub c 1))", "false");
        value("(less c 0)", "true");
        value("(less 0 c)", "false");
        CHECKS.value("(less 0 0)", "false");
        CHECKS.value("(less 0 1)", "true");
        CHECKS.value("(less 1 0)", "false");
        CHECKS.value("(less (sub 0 1) 0)", "true");
        CHECKS.value("(less 0 (sub 0 1))", "false");
    }

    /** "Two are the SAME if they are equal numbers, both true, false, the empty list or nothing, the same name or word, ..". */
    private static void sameOfEachTwo() {
        for (String one : Samples.all()) {
            for (String other : Samples.all()) {
                boolean due = one.equals(other) && !Samples.isAnew(one);
                CHECKS.value("(same " + one + " " + other + ")", due ? "true" : "false");
            }
        }
    }

    /** ".. the same pair, the same procedure, the same built-in procedure or the same continuation". */
    private static void sameAsItself() {
        for (String one : Samples.all()) {
            CHECKS.value("((lambda (c) (same c c)) " + one + ")", "true");
            CHECKS.value("(define c " + one + ") (define d (cons c 0)) (same (car d) c)", "true");
        }
    }

    /** "equal numbers", however they were come by, and none that is beside them. */
    private static void sameNumbers() {
        CHECKS.value("(same 5 (add 2 3))", "true");
        CHECKS.value("(same 5 (add 2 4))", "false");
        CHECKS.value("(same 5 (add 2 2))", "false");
        CHECKS.value("(same 5 (sub 0 5))", "false");
        CHECKS.value("(same (sub 0 1) (sub 1 2))", "true");
        value("(same c (add (sub c 1) 1))", "true");
        value("(same c (sub c 1))", "false");
        value("(same c (sub 0 c))", "true");
        value("(same (sub c 1) (sub (sub 0 1) c))", "true");
        value("(same (add c c) 0)", "true");
    }

    /** "each time that lambda is worked out it is another one". */
    private static void sameProcedures() {
        String make = "(define a (lambda () (lambda () 1))) ";
        CHECKS.value(make + "(same (a) (a))", "false");
        CHECKS.value(make + "(define c (a)) (same c c)", "true");
        CHECKS.value(make + "(define c (a)) (define d (a)) (same c d)", "false");
        CHECKS.value(make + "(same a a)", "true");
        CHECKS.value("(same (lambda () 1) (lambda () 1))", "false");
    }

    /** "each time that callcc is applied it is another one". */
    private static void sameContinuations() {
        CHECKS.value("(callcc (lambda (a) (same a a)))", "true");
        CHECKS.value("(callcc (lambda (a) (callcc (lambda (c) (same a c)))))", "false");
        CHECKS.value("(define a (lambda () (callcc (lambda (c) c)))) (same (a) (a))", "false");
        CHECKS.value("(define a (callcc (lambda (c) c))) (define d a) (same a d)", "true");
    }

    /** "the same pair": equal ones are not, and it stays the same when its parts change. */
    private static void samePairs() {
        CHECKS.value("(same (cons 1 2) (cons 1 2))", "false");
        CHECKS.value("(define a (cons 1 2)) (define c a) (setcar a 5) (setcdr a 6) (same a c)", "true");
        CHECKS.value("(define a (cons 1 2)) (define c (cons 5 6)) (setcar a 5) (setcdr a 6) (same a c)", "false");
        CHECKS.value("(define a (lambda () '(1))) (same (a) (a))", "true");
        CHECKS.value("(define a (lambda () (cons 1 2))) (same (a) (a))", "false");
        CHECKS.value("(define a '(1 2)) (same (cdr a) (cdr a))", "true");
        CHECKS.value("(define a '(1 2)) (same a (cdr a))", "false");
    }
}
