import java.util.LinkedHashMap;
import java.util.Map;

/**
 * The document's sentences about what is applied, to how many values and of which kinds (ARGUMENTS,
 * NO_PROCEDURE, TYPE, FULL_UP), at their boundaries; and promise 16.
 */
public final class ApplicationTest {
    private static final Checks CHECKS = new Checks();
    private static final int MOST_PRINTED = 20;

    private ApplicationTest() {
    }

    public static void main(String[] arguments) {
        order();
        valuesOfProcedures();
        valuesOfBuiltIns();
        valuesOfContinuations();
        noProcedures();
        pairParts();
        tests();
        numberParts();
        printedKinds();
        twentyPrinted();
        printedAfterOtherTests();
        listsOfApply();
        listsWithoutEnd();
        applyTests();
        callccTests();
        continuationsOfForms();
        CHECKS.end();
    }

    private static String numbers(int count) {
        StringBuilder all = new StringBuilder();
        for (int i = 1; i <= count; i++) {
            all.append(' ').append(i);
        }
        return all.toString();
    }

    /** "Another list: its forms are worked out in order, the first gives what is APPLIED to the values of the others." */
    private static void order() {
        CHECKS.prints("((begin (print 1) add) (print 2) (print 3))", 1, 2, 3);
        CHECKS.prints("((begin (print 1) 5) (print 2) (print 3))", 1, 2, 3);
        CHECKS.ends("(a ())", ListMachine.UNBOUND);
        CHECKS.ends("(() a)", ListMachine.SYNTAX);
        CHECKS.ends("(1 a)", ListMachine.UNBOUND);
        CHECKS.ends("((car 1) a)", ListMachine.TYPE);
        CHECKS.ends("(car a ())", ListMachine.UNBOUND);
        CHECKS.ends("(car () a)", ListMachine.SYNTAX);
        CHECKS.ends("(car 1 (car 1 2) a)", ListMachine.ARGUMENTS);
        CHECKS.endsAt("(1)", ListMachine.NO_PROCEDURE, 3);
        CHECKS.endsAt("(1 2)", ListMachine.NO_PROCEDURE, 4);
    }

    /** "A procedure: ARGUMENTS if it has not as many names as there are values", none (promise 16) to four. */
    private static void valuesOfProcedures() {
        String names = "";
        for (int named = 0; named <= 4; named++) {
            String procedure = "(lambda (" + names + ") (print 1) (print 2))";
            for (int given = 0; given <= 6; given++) {
                String direct = "(" + procedure + numbers(given) + ")";
                int body = named == given ? 8 : 0;
                CHECKS.endsAt(direct, named == given ? ListMachine.DONE : ListMachine.ARGUMENTS, 3 + given + body);
                CHECKS.same(direct + " printed", Texts.machine(direct).printed(), named == given ? 2 : 0);
                String through = "(apply " + procedure + " '(" + numbers(given) + "))";
                CHECKS.endsAt(through, named == given ? ListMachine.DONE : ListMachine.ARGUMENTS, 6 + body);
                CHECKS.same(through + " printed", Texts.machine(through).printed(), named == given ? 2 : 0);
            }
            names += " " + (char) ('a' + named);
        }
        CHECKS.ends("((lambda (a) 1)" + " 1".repeat(61) + ")", ListMachine.ARGUMENTS);
        CHECKS.prints("((lambda () (print 1)) (print 2))", 2);
        CHECKS.value("((lambda () 1 2 3))", "3");
    }

    /** How a run ends if the built-in procedure is applied to as many values as it takes, all of them true. */
    private static Map<String, Integer> builtIns() {
        Map<String, Integer> endings = new LinkedHashMap<>();
        for (String name : new String[] {"isnull", "ispair", "cons", "same"}) {
            endings.put(name, ListMachine.DONE);
        }
        for (String name : new String[] {"car", "cdr", "print", "add", "sub", "mul", "less", "setcar", "setcdr", "apply"}) {
            endings.put(name, ListMachine.TYPE);
        }
        endings.put("callcc", ListMachine.NO_PROCEDURE);
        return endings;
    }

    /** "A built-in one: ARGUMENTS if the number is not as below", before TYPE and before it does anything. */
    private static void valuesOfBuiltIns() {
        Map<String, Integer> endings = builtIns();
        CHECKS.same("built-in procedures", endings.size(), 15);
        for (String name : endings.keySet()) {
            int takes = " car cdr isnull ispair print callcc ".contains(" " + name + " ") ? 1 : 2;
            for (int given = 0; given <= 5; given++) {
                int due = given == takes ? endings.get(name) : ListMachine.ARGUMENTS;
                int more = name.equals("callcc") && given == takes ? 1 : 0;
                CHECKS.endsAt("(" + name + " true".repeat(given) + ")", due, 3 + given + more);
                CHECKS.endsAt("(apply " + name + " '(" + " true".repeat(given) + "))", due, 6 + more);
            }
        }
        CHECKS.counts("(cons 1)", 4, 0, 0);
        CHECKS.counts("(cons 1 2 3)", 6, 0, 0);
        CHECKS.prints("(print 1 2)");
        CHECKS.prints("(print)");
    }

    /** "A continuation that is applied to another number of values than 1: ARGUMENTS." */
    private static void valuesOfContinuations() {
        for (int given = 0; given <= 6; given++) {
            int ending = given == 1 ? ListMachine.DONE : ListMachine.ARGUMENTS;
            String direct = "(callcc (lambda (c) (c" + numbers(given) + ")))";
            CHECKS.endsAt(direct, ending, 8 + given);
            CHECKS.counts(direct, 8 + given, 0, given == 1 ? 1 : 0);
            String through = "(callcc (lambda (c) (apply c '(" + numbers(given) + "))))";
            CHECKS.endsAt(through, ending, 11);
            CHECKS.counts(through, 11, 0, given == 1 ? 1 : 0);
        }
        CHECKS.value("(callcc (lambda (c) (c 5)))", "5");
        CHECKS.value("(callcc (lambda (c) (apply c '(5))))", "5");
    }

    /** "Something else: NO_PROCEDURE", for a value of each other kind, whatever it is applied to. */
    private static void noProcedures() {
        for (String form : Samples.noProcedures()) {
            for (int given = 0; given <= 3; given++) {
                CHECKS.ends("(" + form + numbers(given) + ")", ListMachine.NO_PROCEDURE);
                CHECKS.ends("(apply " + form + " '(" + numbers(given) + "))", ListMachine.NO_PROCEDURE);
            }
            CHECKS.ends("(callcc " + form + ")", ListMachine.NO_PROCEDURE);
        }
        for (String form : Samples.applicable()) {
            CHECKS.ends("(" + form + numbers(7) + ")", ListMachine.ARGUMENTS);
        }
    }

    /** "car P, cdr P: its first, rest; setcar P V, setcdr P V: .. becomes V, the value is nothing (TYPE if P is no pair)". */
    private static void pairParts() {
        for (String form : Samples.noPairs()) {
            CHECKS.ends("(car " + form + ")", ListMachine.TYPE);
            CHECKS.ends("(cdr " + form + ")", ListMachine.TYPE);
            CHECKS.ends("(setcar " + form + " 5)", ListMachine.TYPE);
            CHECKS.ends("(setcdr " + form + " 5)", ListMachine.TYPE);
            CHECKS.value("(same (car (cons " + form + " 5)) 5)", "false");
            CHECKS.value("(same (cdr (cons 5 " + form + ")) 5)", "false");
        }
        for (String form : Samples.PAIRS) {
            CHECKS.same("car of " + form, Texts.machine("(car " + form + ")").run(), ListMachine.DONE);
            CHECKS.same("cdr of " + form, Texts.machine("(cdr " + form + ")").run(), ListMachine.DONE);
            CHECKS.value("(setcar " + form + " 5)", "_");
            CHECKS.value("(setcdr " + form + " 5)", "_");
            CHECKS.value("(define c " + form + ") (setcar c 5) (setcdr c 6) c", "( 5 . 6 )");
        }
        CHECKS.value("(car (cons 1 2))", "1");
        CHECKS.value("(cdr (cons 1 2))", "2");
        CHECKS.value("(cdr '(1))", "( )");
        CHECKS.ends("(cdr (cdr '(1)))", ListMachine.TYPE);
        CHECKS.ends("(car (cdr '(1)))", ListMachine.TYPE);
    }

    /** "isnull V, ispair V: true or false", for a value of each kind. */
    private static void tests() {
        for (String form : Samples.all()) {
            CHECKS.value("(isnull " + form + ")", form.equals(Samples.EMPTY) ? "true" : "false");
            CHECKS.value("(ispair " + form + ")", Samples.PAIRS.contains(form) ? "true" : "false");
        }
    }

    /** "add, sub, mul A B ..; less A B .. (TYPE if one is no number)": the first, the second, or both. */
    private static void numberParts() {
        for (String name : new String[] {"add", "sub", "mul", "less"}) {
            for (String form : Samples.noNumbers()) {
                CHECKS.ends("(" + name + " " + form + " 1)", ListMachine.TYPE);
                CHECKS.ends("(" + name + " 1 " + form + ")", ListMachine.TYPE);
                CHECKS.ends("(" + name + " " + form + " " + form + ")", ListMachine.TYPE);
            }
            for (String form : Samples.NUMBERS) {
                CHECKS.same(name + " of " + form, Texts.machine("(" + name + " " + form + " 1)").run(), ListMachine.DONE);
            }
        }
    }

    /** "print A: TYPE if A is no number; .. the value is A." */
    private static void printedKinds() {
        for (String form : Samples.noNumbers()) {
            CHECKS.ends("(print " + form + ")", ListMachine.TYPE);
            CHECKS.prints("(print 7) (print " + form + ")", 7);
        }
        for (String form : Samples.NUMBERS) {
            CHECKS.value("(same (print " + form + ") " + form + ")", "true");
            CHECKS.same("printed " + form, Texts.machine("(print " + form + ")").printed(), 1);
        }
    }

    /** "(print (print .. 7))": three tokens each, so that 23 fit into a text. */
    private static String nested(int prints) {
        return "(print ".repeat(prints) + "7" + ")".repeat(prints);
    }

    /** "if 20 were printed FULL_UP". */
    private static void twentyPrinted() {
        for (int prints = 18; prints <= 23; prints++) {
            ListMachine machine = Texts.machine(nested(prints));
            boolean isFull = prints > MOST_PRINTED;
            int left = isFull ? prints - MOST_PRINTED - 1 : 0;
            CHECKS.same(prints + " prints: run", machine.run(), isFull ? ListMachine.FULL_UP : ListMachine.DONE);
            CHECKS.same(prints + " prints: printed", machine.printed(), Math.min(prints, MOST_PRINTED));
            CHECKS.same(prints + " prints: counted", machine.counted(), 3 * prints + 1 - left);
            CHECKS.same(prints + " prints: items", machine.items(), isFull ? ListMachine.NONE : 1);
            for (int k = -1; k <= 24; k++) {
                CHECKS.same(prints + " prints: output " + k, machine.output(k),
                    k >= 0 && k < Math.min(prints, MOST_PRINTED) ? 7 : 0);
            }
        }
        CHECKS.value(nested(MOST_PRINTED) + " (add 1 2)", "3");
        CHECKS.ends("(add 1 " + nested(MOST_PRINTED + 1) + ")", ListMachine.FULL_UP);
    }

    /** FULL_UP comes behind ARGUMENTS and TYPE, and only print meets it. */
    private static void printedAfterOtherTests() {
        CHECKS.ends("(print (begin " + nested(MOST_PRINTED) + " true))", ListMachine.TYPE);
        CHECKS.ends("(print " + nested(MOST_PRINTED) + " 2)", ListMachine.ARGUMENTS);
        CHECKS.ends(nested(MOST_PRINTED) + " (print 1)", ListMachine.FULL_UP);
        CHECKS.ends(nested(MOST_PRINTED) + " (print)", ListMachine.ARGUMENTS);
        CHECKS.ends(nested(MOST_PRINTED) + " (print 'a)", ListMachine.TYPE);
        CHECKS.ends(nested(MOST_PRINTED) + " (print a)", ListMachine.UNBOUND);
        CHECKS.value(nested(MOST_PRINTED) + " print", "*");
    }

    /** "apply F L: F is applied to the values in the list L, in order (TYPE if L is no list that ends with the empty list)." */
    private static void listsOfApply() {
        CHECKS.value("(apply (lambda () 4) '())", "4");
        CHECKS.value("(apply (lambda (a) a) '(1))", "1");
        CHECKS.value("(apply (lambda (a b) (cons a b)) '(1 2))", "( 1 . 2 )");
        CHECKS.value("(apply (lambda (a b c) (cons a (cons b c))) '(1 2 3))", "( 1 2 . 3 )");
        CHECKS.value("(apply (lambda (a b c d) (cons a (cons b (cons c d)))) '(1 2 3 4))", "( 1 2 3 . 4 )");
        CHECKS.ends("(apply (lambda (a) 1) '(" + " 1".repeat(57) + "))", ListMachine.ARGUMENTS);
        for (String form : Samples.all()) {
            if (!Samples.PAIRS.contains(form) && !form.equals(Samples.EMPTY)) {
                CHECKS.ends("(apply (lambda () 1) " + form + ")", ListMachine.TYPE);
                CHECKS.ends("(apply (lambda (a) 1) (cons 1 " + form + "))", ListMachine.TYPE);
                CHECKS.ends("(apply (lambda (a b) 1) (cons 1 (cons 2 " + form + ")))", ListMachine.TYPE);
                CHECKS.ends("(apply (lambda (a b c) 1) (cons 1 (cons 2 (cons 3 " + form + "))))", ListMachine.TYPE);
            }
        }
        CHECKS.value("(apply (lambda (a b) (cons a b)) (cons 1 (cons 2 '())))", "( 1 . 2 )");
        CHECKS.value("(define a '(1 2)) (apply (lambda (b c) (setcar a 9) (setcdr a 9) (cons b c)) a)", "( 1 . 2 )");
        CHECKS.value("(apply apply (cons add (cons '(1 2) '())))", "3");
    }

    /** The same for lists that never end: rings of one to five pairs, behind none to four others. */
    private static void listsWithoutEnd() {
        for (int length = 1; length <= 5; length++) {
            for (int back = 0; back < length; back++) {
                String last = "(cdr ".repeat(length - 1) + "a" + ")".repeat(length - 1);
                String to = "(cdr ".repeat(back) + "a" + ")".repeat(back);
                String ring = "(define a '(" + numbers(length) + ")) (setcdr " + last + " " + to + ") ";
                CHECKS.ends(ring + "(apply add a)", ListMachine.TYPE);
                CHECKS.ends(ring + "(apply add (cons 1 a))", ListMachine.TYPE);
                CHECKS.ends(ring + "(apply 5 a)", ListMachine.TYPE);
            }
            String inFirst = "(define a '(" + numbers(length) + ")) (setcar a a) (apply (lambda (b) 1) a)";
            CHECKS.same(inFirst, Texts.machine(inFirst).run(), length == 1 ? ListMachine.DONE : ListMachine.ARGUMENTS);
        }
    }

    /** "(So F is counted as well, when it is applied, after these tests.)" */
    private static void applyTests() {
        CHECKS.endsAt("(apply 1)", ListMachine.ARGUMENTS, 4);
        CHECKS.endsAt("(apply 1 2)", ListMachine.TYPE, 5);
        CHECKS.endsAt("(apply 1 '())", ListMachine.NO_PROCEDURE, 6);
        CHECKS.endsAt("(apply add '(1))", ListMachine.ARGUMENTS, 6);
        CHECKS.endsAt("(apply add '(1 true))", ListMachine.TYPE, 6);
        CHECKS.endsAt("(apply add '(1 2))", ListMachine.DONE, 6);
        CHECKS.endsAt("(apply 1 2 3)", ListMachine.ARGUMENTS, 6);
    }

    /** "callcc F: F is applied to a continuation of this application; its value is that of F's application." */
    private static void callccTests() {
        CHECKS.endsAt("(callcc)", ListMachine.ARGUMENTS, 3);
        CHECKS.endsAt("(callcc 1)", ListMachine.NO_PROCEDURE, 5);
        CHECKS.endsAt("(callcc 1 2)", ListMachine.ARGUMENTS, 5);
        CHECKS.endsAt("(callcc (lambda () 1))", ListMachine.ARGUMENTS, 5);
        CHECKS.endsAt("(callcc (lambda (a) 1))", ListMachine.DONE, 6);
        CHECKS.endsAt("(callcc (lambda (a b) 1))", ListMachine.ARGUMENTS, 5);
        CHECKS.endsAt("(callcc cons)", ListMachine.ARGUMENTS, 5);
        CHECKS.endsAt("(callcc car)", ListMachine.TYPE, 5);
        CHECKS.endsAt("(callcc ispair)", ListMachine.DONE, 5);
        CHECKS.value("(callcc ispair)", "false");
        CHECKS.value("(callcc isnull)", "false");
        CHECKS.value("(add 1 (callcc (lambda (a) 5)))", "6");
        CHECKS.value("(add 1 (callcc (lambda (a) (add 10 (a 5)))))", "6");
    }

    /** "what a continuation made in one of them goes on with, are the forms behind that": the first, a middle and the last one. */
    private static void continuationsOfForms() {
        String again = "(callcc (lambda (c) (set a c) 1))";
        String enter = " (if (same a 0) 0 ((lambda (c) (set a 0) (c 2)) a))";
        CHECKS.prints("(define a 0) (print " + again + ") (print 5)" + enter + " (print 6)", 1, 5, 2, 5, 6);
        CHECKS.prints("(define a 0) (print 4) (print " + again + ")" + enter + " (print 6)", 4, 1, 2, 6);
        CHECKS.prints("(define a 0) (print 4) (begin (print " + again + ")" + enter + ")", 4, 1, 2);
        CHECKS.value("(define a 0) " + again + " (if (same a 0) 7 ((lambda (c) (set a 0) (c 2)) a))", "7");
        CHECKS.value("5 (callcc (lambda (c) (c 6)))", "6");
        CHECKS.value("(callcc (lambda (c) (c 6))) 5", "5");
        CHECKS.counts("(callcc (lambda (c) (c 6))) 5", 10, 0, 1);
    }
}
