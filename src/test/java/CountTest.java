/** Promises 11 to 15: what the run prints, counts, makes and enters, whichever way it ends. */
public final class CountTest {
    private static final Checks CHECKS = new Checks();

    /** Counts 595 in 39 tokens. */
    private static final String MOST = "(define b (lambda (a) (if (less 0 a) (b (sub a 1)) 0))) (b 19) (b 19) (b 2) ";

    private CountTest() {
    }

    public static void main(String[] arguments) {
        printed();
        outputs();
        countedForms();
        countedErrors();
        tired();
        tiredAtApplications();
        conses();
        entries();
        manyFrames();
        manyPlaces();
        deepTexts();
        manyCalls();
        CHECKS.end();
    }

    private static void printed() {
        CHECKS.prints("1");
        CHECKS.prints("(print 3)", 3);
        CHECKS.prints("(print (sub 0 3)) (print 0)", -3, 0);
        CHECKS.prints("(print 1) (print 2) (car 1)", 1, 2);
        CHECKS.prints("(print 1) (print true)", 1);
        CHECKS.prints("(print 1) (", new int[0]);
        CHECKS.prints("(apply print '(6))", 6);
        CHECKS.prints("(define a (lambda () (print 7) (print 8) 'a)) (a)", 7, 8);
        String loop = "(define b (lambda (a) (print a) (if (less a LIMIT) (b (add a 1)) a))) (b 1)";
        ListMachine twenty = Texts.machine(loop.replace("LIMIT", "(add 10 10)"));
        CHECKS.same("20 printed: run", twenty.run(), ListMachine.DONE);
        CHECKS.same("20 printed", twenty.printed(), 20);
        CHECKS.same("20 printed: last", twenty.output(19), 20);
        CHECKS.same("20 printed: behind the last", twenty.output(20), 0);
        ListMachine more = Texts.machine(loop.replace("LIMIT", "(add 10 11)"));
        CHECKS.same("21 printed: run", more.run(), ListMachine.FULL_UP);
        CHECKS.same("21 printed", more.printed(), 20);
        CHECKS.same("21 printed: last", more.output(19), 20);
        CHECKS.same("21 printed: behind the last", more.output(20), 0);
        ListMachine wrong = Texts.machine(loop.replace("LIMIT", "(add 10 10)") + " (print 'a)");
        CHECKS.same("no number comes before full up", wrong.run(), ListMachine.TYPE);
    }

    private static void outputs() {
        ListMachine machine = Texts.machine("(print 4) (print 5) 6");
        CHECKS.same("output 0", machine.output(0), 4);
        CHECKS.same("output 1", machine.output(1), 5);
        for (int k : new int[] {-1, 2, 19, 20, 21, Integer.MIN_VALUE, Integer.MAX_VALUE}) {
            CHECKS.same("output " + k, machine.output(k), 0);
        }
        machine.untoken();
        machine.untoken();
        CHECKS.same("output of an unreadable text", machine.output(0), 0);
    }

    private static void countedForms() {
        CHECKS.counts("", 0, 0, 0);
        CHECKS.counts("1", 1, 0, 0);
        CHECKS.counts("1 true cons", 3, 0, 0);
        CHECKS.counts("'(1 2 3)", 1, 0, 0);
        CHECKS.counts("''a", 1, 0, 0);
        CHECKS.counts("(if true 1 2)", 3, 0, 0);
        CHECKS.counts("(if false 1)", 2, 0, 0);
        CHECKS.counts("(lambda (a) a a)", 1, 0, 0);
        CHECKS.counts("(define a 1)", 2, 0, 0);
        CHECKS.counts("(define a 1) (set a 2) a", 5, 0, 0);
        CHECKS.counts("(begin 1 2 3)", 4, 0, 0);
        CHECKS.counts("(add 1 2)", 5, 0, 0);
        CHECKS.counts("((lambda (a) a a) 1)", 6, 0, 0);
        CHECKS.counts("(apply add '(1 2))", 6, 0, 0);
        CHECKS.counts("(callcc (lambda (a) (a 1)))", 9, 0, 1);
    }

    private static void countedErrors() {
        CHECKS.counts("a", 1, 0, 0);
        CHECKS.counts("if", 1, 0, 0);
        CHECKS.counts("()", 1, 0, 0);
        CHECKS.counts("(quote)", 1, 0, 0);
        CHECKS.counts("(1)", 3, 0, 0);
        CHECKS.counts("(car)", 3, 0, 0);
        CHECKS.counts("(car 1)", 4, 0, 0);
        CHECKS.counts("(set a 1)", 2, 0, 0);
        CHECKS.counts("((lambda () 1) 2)", 4, 0, 0);
        CHECKS.counts("(apply 1 2)", 5, 0, 0);
        CHECKS.counts("(apply 1 '())", 6, 0, 0);
        CHECKS.counts("(callcc 1)", 5, 0, 0);
        CHECKS.counts("1 2 a 3", 3, 0, 0);
    }

    private static void ends(String text, int ending, int counted) {
        ListMachine machine = Texts.machine(text);
        CHECKS.same(text + " run", machine.run(), ending);
        CHECKS.same(text + " counted", machine.counted(), counted);
    }

    private static void tired() {
        ends(MOST, ListMachine.DONE, 595);
        ends(MOST + "1 2 3 4", ListMachine.DONE, 599);
        ends(MOST + "1 2 3 4 5", ListMachine.DONE, 600);
        ends(MOST + "1 2 3 4 5 6", ListMachine.TIRED, 600);
        ends(MOST + "1 2 3 4 5 a", ListMachine.TIRED, 600);
        ends(MOST + "1 2 3 4 5 ()", ListMachine.TIRED, 600);
        ends(MOST + "1 2 3 4 5 (if)", ListMachine.TIRED, 600);
        ends(MOST + "1 2 3 4 a 6", ListMachine.UNBOUND, 600);
        ends(MOST + "1 2 3 4 (if) 6", ListMachine.SYNTAX, 600);
        ends(MOST + "1 2 3 (if true 4 5)", ListMachine.TIRED, 600);
        ends(MOST + "1 2 3 (if false 4)", ListMachine.DONE, 600);
        ends("(define a (lambda () (a))) (a)", ListMachine.TIRED, 600);
        ends("((lambda (a) (a a)) (lambda (a) (a a)))", ListMachine.TIRED, 600);
        ends("(define a (callcc (lambda (b) b))) (a a)", ListMachine.TIRED, 600);
        ends("((callcc callcc) (callcc callcc))", ListMachine.TIRED, 600);
    }

    private static void tiredAtApplications() {
        ends(MOST + "1 2 (car)", ListMachine.ARGUMENTS, 600);
        ends(MOST + "1 2 3 (car)", ListMachine.TIRED, 600);
        ends(MOST + "1 2 3 (1)", ListMachine.TIRED, 600);
        ends(MOST + "(apply 1 2)", ListMachine.TYPE, 600);
        ends(MOST + "1 (apply 1 2)", ListMachine.TIRED, 600);
        ends(MOST + "(apply 1 '())", ListMachine.TIRED, 600);
        ends(MOST + "1 (callcc 1)", ListMachine.TIRED, 600);
        ends(MOST + "(callcc 1)", ListMachine.NO_PROCEDURE, 600);
        ListMachine prints = Texts.machine(MOST + "1 (print 1)");
        CHECKS.same("the last that is counted prints", prints.printed(), 1);
        prints = Texts.machine(MOST + "1 2 (print 1)");
        CHECKS.same("a tired run does not print", prints.printed(), 0);
        ListMachine conses = Texts.machine(MOST + "(cons 1 2)");
        CHECKS.same("the last that is counted makes a pair", conses.conses(), 1);
        conses = Texts.machine(MOST + "0 (cons 1 2)");
        CHECKS.same("a tired run makes none", conses.conses(), 0);
    }

    private static void conses() {
        CHECKS.counts("'(1 2 3)", 1, 0, 0);
        CHECKS.counts("(cons 1 2)", 5, 1, 0);
        CHECKS.counts("(cons 1 (cons 2 '()))", 9, 2, 0);
        CHECKS.counts("(apply cons '(1 2))", 6, 1, 0);
        CHECKS.counts("(cons 1)", 4, 0, 0);
        CHECKS.counts("(cons 1 2) (car 0)", 9, 1, 0);
        CHECKS.counts("(setcar '(1) 2)", 5, 0, 0);
    }

    private static void entries() {
        CHECKS.counts("(callcc (lambda (a) 1))", 6, 0, 0);
        CHECKS.counts("(callcc (lambda (a) (a 1) (a 2)))", 9, 0, 1);
        CHECKS.counts("(callcc (lambda (a) (a)))", 8, 0, 0);
        CHECKS.counts("(callcc (lambda (a) (a 1 2)))", 10, 0, 0);
        CHECKS.counts("(callcc (lambda (a) (apply a '(1))))", 11, 0, 1);
        CHECKS.counts("(callcc (lambda (a) (a b)))", 8, 0, 0);
        CHECKS.counts("(callcc (lambda (a) (a 1))) b", 10, 0, 1);
    }

    /** Each entry goes through many waiting defines, none of which is counted again. */
    private static void manyFrames() {
        ends("(define b 0) (define d (lambda (a) (define e (if (less 0 a) (d (sub a 1)) (callcc (lambda (c) (set b c) 0)))))) "
            + "(d 19) (b 1)", ListMachine.TIRED, 600);
        ends("(define b 0) (define a (define a (define a (define a (define a (define a (callcc (lambda (c) (set b c))))))))) (b b)",
            ListMachine.TIRED, 600);
    }

    private static void manyPlaces() {
        ends("(define e '(1 2 3 4)) (define f (lambda (a b c d) (apply f e))) (apply f e)", ListMachine.TIRED, 600);
        ends("(define f (lambda (a b c d) (apply f '(1 2 3 4)))) (f 1 2 3 4)", ListMachine.TIRED, 600);
        ends("(define f '(0 1)) (setcar f apply) (setcar (cdr f) f) (apply apply f)", ListMachine.TIRED, 600);
        ends("(define a (lambda (b) (cons b (a b)))) (a 1)", ListMachine.TIRED, 600);
        ends("(define a (lambda (b) (a (cons b b)))) (a 1)", ListMachine.TIRED, 600);
    }

    private static void deepTexts() {
        CHECKS.same("34 lists", Texts.machine("'" + "(".repeat(34) + ")".repeat(34)).items(), 68);
        CHECKS.same("39 marks", Texts.machine("'".repeat(39) + "1").items(), 115);
        CHECKS.same("40 marks", Texts.machine("'".repeat(40) + "1").items(), 118);
        CHECKS.same("41 marks", Texts.machine("'".repeat(41) + "1").items(), ListMachine.LONG);
        CHECKS.same("69 marks", Texts.machine("'".repeat(69) + "1").items(), ListMachine.LONG);
        CHECKS.same("70 marks", Texts.machine("'".repeat(70)).run(), ListMachine.UNREADABLE);
        CHECKS.same("70 open", Texts.machine("(".repeat(70)).run(), ListMachine.UNREADABLE);
        CHECKS.same("70 close", Texts.machine(")".repeat(70)).run(), ListMachine.UNREADABLE);
        CHECKS.same("35 lists", Texts.machine("(".repeat(35) + ")".repeat(35)).run(), ListMachine.SYNTAX);
        CHECKS.same("35 lists counted", Texts.machine("(".repeat(35) + ")".repeat(35)).counted(), 35);
    }

    private static void manyCalls() {
        ListMachine machine = Texts.machine("(define b (lambda (a) (if (less 0 a) (cons a (b (sub a 1))) '()))) (b 19)");
        for (int i = 0; i < 400; i++) {
            CHECKS.same("call " + i, machine.kind(i), i == 0 ? 2 : i == 20 ? 3 : i < 20 ? 0 : ListMachine.NONE);
        }
        CHECKS.same("conses of the last run alone", machine.conses(), 19);
        machine = Texts.machine("(define b (lambda (a) (callcc (lambda (c) (if (less 0 a) (b (sub a 1)) (c 'd)))))) (b 19)");
        for (int i = 0; i < 480; i++) {
            CHECKS.same("run " + i, machine.run(), ListMachine.DONE);
        }
        CHECKS.same("entries of the last run alone", machine.entries(), 1);
        CHECKS.same("the value after many runs", Texts.written(machine), "d");
    }
}
