/** Promise 16: order and limits. */
public final class OrderTest {
    private static final Checks CHECKS = new Checks();

    private OrderTest() {
    }

    public static void main(String[] arguments) {
        proceduresWithoutNames();
        builtInNames();
        continuations();
        CHECKS.end();
    }

    private static void proceduresWithoutNames() {
        CHECKS.value("(lambda () 1)", "*");
        CHECKS.value("((lambda () 1))", "1");
        CHECKS.value("((lambda () 1 2 3))", "3");
        CHECKS.value("(apply (lambda () 1) '())", "1");
        CHECKS.ends("((lambda () 1) 2)", ListMachine.ARGUMENTS);
        CHECKS.ends("(apply (lambda () 1) '(2))", ListMachine.ARGUMENTS);
        CHECKS.ends("(callcc (lambda () 1))", ListMachine.ARGUMENTS);
        CHECKS.ends("(lambda ())", ListMachine.SYNTAX);
    }

    private static void builtInNames() {
        for (String name : new String[] {"cons", "car", "cdr", "isnull", "ispair", "same", "add", "sub", "mul", "less",
            "setcar", "setcdr", "print", "callcc", "apply"}) {
            CHECKS.value("(same '" + name + " '" + name + ")", "true");
            CHECKS.value("(same " + name + " " + name + ")", "true");
            CHECKS.value("(same '" + name + " " + name + ")", "false");
            CHECKS.value("(same " + name + " '" + name + ")", "false");
            CHECKS.value("(same (car '(" + name + ")) '" + name + ")", "true");
            CHECKS.value("'" + name, name);
            CHECKS.value(name, "*");
        }
        CHECKS.value("(same 'car 'cdr)", "false");
    }

    private static void continuations() {
        CHECKS.ends("(callcc (lambda (a) (a)))", ListMachine.ARGUMENTS);
        CHECKS.ends("(callcc (lambda (a) (a 1 2)))", ListMachine.ARGUMENTS);
        CHECKS.ends("(callcc (lambda (a) (a 1 2 3 4 5 6 7)))", ListMachine.ARGUMENTS);
        CHECKS.ends("(callcc (lambda (a) (apply a '())))", ListMachine.ARGUMENTS);
        CHECKS.ends("(callcc (lambda (a) (apply a '(1 2))))", ListMachine.ARGUMENTS);
        CHECKS.counts("(callcc (lambda (a) (apply a '(1 2))))", 11, 0, 0);
        CHECKS.value("(callcc (lambda (a) (apply a '(1))))", "1");
    }
}
