/**
 * The document's sentences about what is counted, made and entered (its third term, promises 13 to
 * 15), at their boundaries: 600 counted, one less and one more, met by each form and application.
 */
public final class CountTest {
    private static final Checks CHECKS = new Checks();
    private static final int MOST = 600;

    private CountTest() {
    }

    public static void main(String[] arguments) {
        counting();
        everyFormAtTheLimit();
        everyErrorAtTheLimit();
        fullUpAtTheLimit();
        loopsWithoutEnd();
        printedAtTheLimit();
        consesAtTheLimit();
        entriesAtTheLimit();
        chosenAtTheLimit();
        conses();
        entries();
        valuesGivenAreNotCounted();
        CHECKS.end();
    }

    /** "Each time that any form is worked out, and each time that something is applied, this is COUNTED". */
    private static void counting() {
        CHECKS.counts("", 0, 0, 0);
        CHECKS.counts("1", 1, 0, 0);
        CHECKS.counts("1 2", 2, 0, 0);
        CHECKS.counts("1 ".repeat(70), 70, 0, 0);
        CHECKS.endsAt("(".repeat(35) + ")".repeat(35), ListMachine.SYNTAX, 35);
        CHECKS.counts("(", 0, 0, 0);
        CHECKS.counts("1 2 c 3", 3, 0, 0);
        for (int counted = 0; counted <= MOST; counted++) {
            CHECKS.endsAt(Counting.upTo(counted), ListMachine.DONE, counted);
        }
    }

    /** The form is DONE if there is room for all that it counts, and the run is TIRED at each step that there is none for. */
    private static void atTheLimit(String form, int ending, int counts) {
        CHECKS.endsAt(form, ending, counts);
        for (int room = 0; room <= counts + 2; room++) {
            String text = Counting.upTo(MOST - room) + form;
            CHECKS.endsAt(text, room < counts ? ListMachine.TIRED : ending, Math.min(MOST, MOST - room + counts));
            if (room < counts) {
                CHECKS.ends(text, ListMachine.TIRED);
            }
        }
    }

    /** "this is COUNTED first; if 600 were counted before, the run is TIRED instead". */
    private static void everyFormAtTheLimit() {
        atTheLimit("5", ListMachine.DONE, 1);
        atTheLimit("true", ListMachine.DONE, 1);
        atTheLimit("false", ListMachine.DONE, 1);
        atTheLimit("cons", ListMachine.DONE, 1);
        atTheLimit("(define c 5) c", ListMachine.DONE, 3);
        atTheLimit("'(1 2)", ListMachine.DONE, 1);
        atTheLimit("(if true 1 2)", ListMachine.DONE, 3);
        atTheLimit("(if false 1 2)", ListMachine.DONE, 3);
        atTheLimit("(if false 1)", ListMachine.DONE, 2);
        atTheLimit("(lambda (c) c c)", ListMachine.DONE, 1);
        atTheLimit("(define c 5)", ListMachine.DONE, 2);
        atTheLimit("(define c 5) (set c 6)", ListMachine.DONE, 4);
        atTheLimit("(begin 1 2 3)", ListMachine.DONE, 4);
        atTheLimit("((lambda () 5))", ListMachine.DONE, 4);
        atTheLimit("((lambda (c d) c d) 1 2)", ListMachine.DONE, 7);
        atTheLimit("(add 1 2)", ListMachine.DONE, 5);
        atTheLimit("(isnull 1)", ListMachine.DONE, 4);
        atTheLimit("(apply add '(1 2))", ListMachine.DONE, 6);
        atTheLimit("(apply (lambda () 1) '())", ListMachine.DONE, 7);
        atTheLimit("(callcc (lambda (c) 5))", ListMachine.DONE, 6);
        atTheLimit("(callcc (lambda (c) (c 5)))", ListMachine.DONE, 9);
        atTheLimit("(callcc ispair)", ListMachine.DONE, 5);
    }

    /** The same for what ends with an error: the error if it was counted before, else TIRED. */
    private static void everyErrorAtTheLimit() {
        atTheLimit("c", ListMachine.UNBOUND, 1);
        atTheLimit("if", ListMachine.SYNTAX, 1);
        atTheLimit("()", ListMachine.SYNTAX, 1);
        atTheLimit("(quote)", ListMachine.SYNTAX, 1);
        atTheLimit("(if 1)", ListMachine.SYNTAX, 1);
        atTheLimit("(lambda)", ListMachine.SYNTAX, 1);
        atTheLimit("(define 1 2)", ListMachine.SYNTAX, 1);
        atTheLimit("(begin)", ListMachine.SYNTAX, 1);
        atTheLimit("(set c 5)", ListMachine.UNBOUND, 2);
        atTheLimit("(1)", ListMachine.NO_PROCEDURE, 3);
        atTheLimit("(1 2)", ListMachine.NO_PROCEDURE, 4);
        atTheLimit("((lambda () 1) 2)", ListMachine.ARGUMENTS, 4);
        atTheLimit("(cons)", ListMachine.ARGUMENTS, 3);
        atTheLimit("(car 1)", ListMachine.TYPE, 4);
        atTheLimit("(add 1 true)", ListMachine.TYPE, 5);
        atTheLimit("(print true)", ListMachine.TYPE, 4);
        atTheLimit("(apply 1 2)", ListMachine.TYPE, 5);
        atTheLimit("(apply 1 '())", ListMachine.NO_PROCEDURE, 6);
        atTheLimit("(apply add '())", ListMachine.ARGUMENTS, 6);
        atTheLimit("(callcc 1)", ListMachine.NO_PROCEDURE, 5);
        atTheLimit("(callcc (lambda (c) (c)))", ListMachine.ARGUMENTS, 8);
    }

    /** The same for FULL_UP: the first (b 19) prints 20, and all but the last print counts 594. */
    private static void fullUpAtTheLimit() {
        String printed = "(define b (lambda (a) (c a) (if (less 0 a) (b (sub a 1)) 0))) (define c print) (b 19) (set c isnull) (b 12) ";
        CHECKS.endsAt(printed, ListMachine.DONE, 594);
        CHECKS.endsAt(printed + "0 (print 8)", ListMachine.FULL_UP, 599);
        CHECKS.endsAt(printed + "0 0 (print 8)", ListMachine.FULL_UP, MOST);
        CHECKS.endsAt(printed + "0 0 0 (print 8)", ListMachine.TIRED, MOST);
        CHECKS.same("printed before", Texts.machine(printed).printed(), 20);
    }

    /** Runs that would never end are TIRED, with 600 counted. */
    private static void loopsWithoutEnd() {
        String[] loops = {"(define a (lambda () (a))) (a)", "((lambda (a) (a a)) (lambda (a) (a a)))",
            "(define a (callcc (lambda (b) b))) (a a)", "((callcc callcc) (callcc callcc))",
            "(define a (lambda () (add 1 (a)))) (a)", "(define a (lambda () (define b (a)))) (a)",
            "(define a (lambda (b) (a (cons b b)))) (a 1)", "(define a (lambda (b c d e) (a b c d e))) (a 1 2 3 4)",
            "(define a (lambda () (begin (a) 1))) (a)", "(define a (lambda () (if (a) 1 2))) (a)",
            "(define a (lambda () (lambda () 1) (a))) (a)", "(define a (lambda (b) (callcc a))) (a 1)",
            "(define f '(0 1)) (setcar f apply) (setcar (cdr f) f) (apply apply f)"};
        for (String loop : loops) {
            CHECKS.endsAt(loop, ListMachine.TIRED, MOST);
            CHECKS.ends(loop, ListMachine.TIRED);
            CHECKS.holds(loop + " reads", Texts.machine(loop).reads());
        }
    }

    private static String fill(int room) {
        return Counting.upTo(MOST - room);
    }

    /** What is TIRED instead does not print. */
    private static void printedAtTheLimit() {
        for (int room = 0; room <= 5; room++) {
            ListMachine machine = Texts.machine(fill(room) + "(print 7)");
            CHECKS.same("print with room for " + room, machine.printed(), room >= 4 ? 1 : 0);
            CHECKS.same("output with room for " + room, machine.output(0), room >= 4 ? 7 : 0);
        }
    }

    /** What is TIRED instead makes no pair. */
    private static void consesAtTheLimit() {
        for (int room = 0; room <= 6; room++) {
            ListMachine machine = Texts.machine(fill(room) + "(cons 1 2)");
            CHECKS.same("cons with room for " + room, machine.conses(), room >= 5 ? 1 : 0);
        }
    }

    /** What is TIRED instead does not go on with a continuation; one that does may be tired behind it. */
    private static void entriesAtTheLimit() {
        for (int room = 6; room <= 11; room++) {
            ListMachine machine = Texts.machine(fill(room) + "(callcc (lambda (c) (c 5))) 6");
            CHECKS.same("entry with room for " + room, machine.entries(), room >= 9 ? 1 : 0);
            CHECKS.same("run with room for " + room, machine.run(), room >= 10 ? ListMachine.DONE : ListMachine.TIRED);
        }
    }

    /** Only the form that is chosen is counted. */
    private static void chosenAtTheLimit() {
        CHECKS.endsAt(fill(3) + "(if true 1 (add 1 (add 1 (add 1 1))))", ListMachine.DONE, MOST);
        CHECKS.endsAt(fill(3) + "(if false (add 1 (add 1 (add 1 1))) 1)", ListMachine.DONE, MOST);
        CHECKS.endsAt(fill(2) + "(if false (add 1 (add 1 (add 1 1))))", ListMachine.DONE, MOST);
        CHECKS.endsAt(fill(1) + "(lambda () (add 1 (add 1 (add 1 1))))", ListMachine.DONE, MOST);
        CHECKS.endsAt(fill(1) + "'(add 1 (add 1 (add 1 1)))", ListMachine.DONE, MOST);
    }

    /** "How many pairs the run makes with cons": not with reading, nor if cons is not applied to two. */
    private static void conses() {
        CHECKS.counts("cons", 1, 0, 0);
        CHECKS.counts("'(cons 1 2)", 1, 0, 0);
        CHECKS.counts("(lambda () (cons 1 2))", 1, 0, 0);
        CHECKS.counts("(cons)", 3, 0, 0);
        CHECKS.counts("(cons 1)", 4, 0, 0);
        CHECKS.counts("(cons 1 2)", 5, 1, 0);
        CHECKS.counts("(cons 1 2 3)", 6, 0, 0);
        CHECKS.counts("(cons 1 (cons 2 3))", 9, 2, 0);
        CHECKS.counts("(apply cons '(1 2))", 6, 1, 0);
        CHECKS.counts("(cons 1 2) c", 6, 1, 0);
        CHECKS.counts("(cons 1 c)", 4, 0, 0);
        CHECKS.counts("(setcar '(1) 2) (setcdr '(1) 2)", 10, 0, 0);
        CHECKS.counts("(cons 1 2) (", 0, 0, 0);
        ListMachine many = Texts.machine("(define a (lambda () (cons 1 2) (a))) (a)");
        CHECKS.same("many pairs: run", many.run(), ListMachine.TIRED);
        // 2 for the define, 3 for the first application, 8 for each turn: 74 of them, then 3 more.
        CHECKS.same("many pairs", many.conses(), 74);
    }

    /** "How many times the run goes on with a continuation": only where one is applied to one value. */
    private static void entries() {
        CHECKS.counts("(callcc (lambda (c) 5))", 6, 0, 0);
        CHECKS.counts("(callcc (lambda (c) c))", 6, 0, 0);
        CHECKS.counts("(callcc (lambda (c) (c)))", 8, 0, 0);
        CHECKS.counts("(callcc (lambda (c) (c 5)))", 9, 0, 1);
        CHECKS.counts("(callcc (lambda (c) (c 5 6)))", 10, 0, 0);
        CHECKS.counts("(callcc (lambda (c) (c 5) (c 6)))", 9, 0, 1);
        CHECKS.counts("(callcc (lambda (c) (c d)))", 8, 0, 0);
        CHECKS.counts("(callcc (lambda (c) (c (c 5))))", 11, 0, 1);
        CHECKS.counts("(callcc (lambda (c) (c 5))) d", 10, 0, 1);
        CHECKS.counts("(callcc callcc)", 6, 0, 1);
        String again = "(define a 0) (define d (callcc (lambda (c) c))) (set a (add a 1)) (if (less a LAST) (d d)) a";
        for (int last = 1; last <= 10; last++) {
            ListMachine machine = Texts.machine(again.replace("LAST", "" + last));
            CHECKS.same("entries with " + last, machine.entries(), last - 1);
            CHECKS.same("value with " + last, Texts.written(machine), "" + last);
        }
        ListMachine many = Texts.machine("(define a (callcc (lambda (c) c))) (a a)");
        // 7 until a has its value, 4 for each entry: 148 of them, then 1 more.
        CHECKS.same("many entries", many.entries(), 148);
    }

    /** Values that waiting defines, sets and forms are given count nothing, however many wait. */
    private static void valuesGivenAreNotCounted() {
        String nested = "(define c ".repeat(15) + "5" + ")".repeat(15);
        CHECKS.counts(nested, 16, 0, 0);
        CHECKS.value(nested + " c", "_");
        CHECKS.endsAt("(define b 0) (define a (define a (define a (define a (define a (define a (callcc (lambda (c) (set b c)))))))))"
            + " (b b)", ListMachine.TIRED, MOST);
        CHECKS.endsAt("(define b 0) (define d (lambda (a) (define e (if (less 0 a) (d (sub a 1)) "
            + "(callcc (lambda (c) (set b c) 0)))))) (d 19) (b 1)", ListMachine.TIRED, MOST);
    }
}
