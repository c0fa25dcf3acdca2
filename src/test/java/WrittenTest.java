/** Promises 8 to 10: the items of the run's value. */
public final class WrittenTest {
    private static final Checks CHECKS = new Checks();

    private WrittenTest() {
    }

    public static void main(String[] arguments) {
        singles();
        lists();
        outOfRange();
        noItems();
        longest();
        rings();
        CHECKS.end();
    }

    private static void item(String text, int kind, int number) {
        ListMachine machine = Texts.machine(text);
        CHECKS.same(text + " items", machine.items(), 1);
        CHECKS.same(text + " kind", machine.kind(0), kind);
        CHECKS.same(text + " number", machine.number(0), number);
    }

    private static void singles() {
        item("7", 0, 7);
        item("0", 0, 0);
        item("(sub 3 5)", 0, -2);
        item("'a", 1, 30);
        item("'j", 1, 39);
        item("'quote", 1, 40);
        item("'begin", 1, 45);
        item("'cons", 1, 50);
        item("'apply", 1, 64);
        item("true", 5, 1);
        item("false", 5, 0);
        item("car", 6, 0);
        item("apply", 6, 0);
        item("(lambda (a) a)", 6, 0);
        item("1 2 (lambda () 3)", 6, 0);
        item("(lambda () 1) (lambda () 2)", 6, 0);
        item("(callcc (lambda (a) a))", 6, 0);
        item("(callcc (lambda (b) b)) (callcc (lambda (a) a))", 6, 0);
        item("", 7, 0);
        item("(if false 1)", 7, 0);
    }

    private static void lists() {
        CHECKS.value("'()", "( )");
        CHECKS.value("'(1)", "( 1 )");
        CHECKS.value("'(())", "( ( ) )");
        CHECKS.value("'(() ())", "( ( ) ( ) )");
        CHECKS.value("'((1 2) (3 (4)) 5)", "( ( 1 2 ) ( 3 ( 4 ) ) 5 )");
        CHECKS.value("(cons 1 2)", "( 1 . 2 )");
        CHECKS.value("(cons 1 (cons 2 3))", "( 1 2 . 3 )");
        CHECKS.value("(cons (cons 1 2) (cons 3 4))", "( ( 1 . 2 ) 3 . 4 )");
        CHECKS.value("(cons '() '())", "( ( ) )");
        CHECKS.value("(cons 1 (if false 1))", "( 1 . _ )");
        CHECKS.value("(cons 1 false)", "( 1 . false )");
        CHECKS.value("(cons car 'car)", "( * . car )");
        CHECKS.value("(cons (lambda () 1) (callcc (lambda (a) a)))", "( * . * )");
        CHECKS.value("(define a '(1)) (cons a (cons a a))", "( ( 1 ) ( 1 ) 1 )");
        ListMachine machine = Texts.machine("(cons 5 'a)");
        int[] kinds = {2, 0, 4, 1, 3};
        int[] numbers = {0, 5, 0, 30, 0};
        CHECKS.same("items", machine.items(), 5);
        for (int i = 0; i < 5; i++) {
            CHECKS.same("kind " + i, machine.kind(i), kinds[i]);
            CHECKS.same("number " + i, machine.number(i), numbers[i]);
        }
    }

    private static void outOfRange() {
        ListMachine machine = Texts.machine("'(4 5)");
        int[] wrong = {-1, 4, 5, 119, 120, 121, Integer.MIN_VALUE, Integer.MAX_VALUE, ListMachine.LONG, ListMachine.NONE};
        for (int i : wrong) {
            CHECKS.same("kind " + i, machine.kind(i), ListMachine.NONE);
            CHECKS.same("number " + i, machine.number(i), 0);
        }
        CHECKS.same("last kind", machine.kind(3), 3);
        CHECKS.same("last number but one", machine.number(2), 5);
    }

    private static void noItems() {
        String[] texts = {"(", "a", "(if)", "(1)", "(car)", "(car 1)", "(cons 1 2) a", "(define a (lambda () (a))) (a)"};
        for (String text : texts) {
            ListMachine machine = Texts.machine(text);
            CHECKS.same(text + " items", machine.items(), ListMachine.NONE);
            for (int i = -1; i < 3; i++) {
                CHECKS.same(text + " kind", machine.kind(i), ListMachine.NONE);
                CHECKS.same(text + " number", machine.number(i), 0);
            }
        }
    }

    private static void longest() {
        // 18 in each copy of the list, six copies, and the rest by hand.
        String copies = "(define a '(1 2 3 4 5 6 7 8 9 10 11 12 13 14 15 16)) (cons a (cons a (cons a (cons a (cons a (cons a ";
        same(copies + "'(1 2 3 4 5 6 7 8 9)))))))", 119);
        same(copies + "'(1 2 3 4 5 6 7 8 9 10)))))))", 120);
        tooLong(copies + "'(1 2 3 4 5 6 7 8 9 10 11)))))))");
        tooLong(copies + "'(1 2 3 4 5 6 7 8 9 ())))))))");
        same(copies + "'(1 2 3 4 5 6 7 8 ())))))))", 120);
        ListMachine machine = Texts.machine(copies + "'(1 2 3 4 5 6 7 8 9 10)))))))");
        CHECKS.same("kind 119", machine.kind(119), 3);
        CHECKS.same("kind 118", machine.kind(118), 0);
        CHECKS.same("number 118", machine.number(118), 10);
        CHECKS.same("kind 120", machine.kind(120), ListMachine.NONE);
    }

    private static void same(String text, int items) {
        ListMachine machine = Texts.machine(text);
        CHECKS.same(text + " items", machine.items(), items);
    }

    private static void tooLong(String text) {
        ListMachine machine = Texts.machine(text);
        CHECKS.same(text + " run", machine.run(), ListMachine.DONE);
        CHECKS.same(text + " items", machine.items(), ListMachine.LONG);
        for (int i = -1; i < 125; i += 9) {
            CHECKS.same(text + " kind", machine.kind(i), ListMachine.NONE);
            CHECKS.same(text + " number", machine.number(i), 0);
        }
    }

    private static void rings() {
        tooLong("(define a '(1)) (setcdr a a) a");
        tooLong("(define a '(1)) (setcar a a) a");
        tooLong("(define a '(1)) (setcar a a) (setcdr a a) a");
        tooLong("(define a '(1 2 3)) (setcdr (cdr (cdr a)) a) a");
        tooLong("(define a '(1)) (setcdr a a) (cons a 2)");
    }
}
