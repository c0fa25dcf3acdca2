import java.util.Arrays;

/**
 * The document's sentences about calls: a refused one "answers the code named and changes nothing",
 * "no call ever throws", and an object is good for 512 of them.
 */
public final class CallsTest {
    private static final Checks CHECKS = new Checks();
    private static final int MOST_CALLS = 512;

    private static final int[] FAR = {Integer.MIN_VALUE, Integer.MIN_VALUE + 1, -1000000004, -1000000001, -2, -1, 0, 1, 2, 19,
        20, 21, 69, 70, 71, 119, 120, 121, 599, 600, 601, 1 << 16, 1 << 30, Integer.MAX_VALUE - 1, Integer.MAX_VALUE};

    /** A text for each way that a run ends, for no text, and for those with most tokens, items and prints. */
    private static final String[] TEXTS = {"", "5", "(print 4) (cons 1 2)", "(callcc (lambda (a) (print 4) (a (cons 5 6))))",
        "(", "(print 4) '", "(print 4) (define a (lambda () (cons 1 2) (a))) (a)", "(cons 1 2) a", "(print 4) (if)",
        "(print 4) (1)", "(print 4) (car)", "(print 4) (car 1)", "(print ".repeat(21) + "7" + ")".repeat(21),
        "(print ".repeat(20) + "7" + ")".repeat(20), "(define a '(1)) (setcdr a a) a", "'".repeat(40) + "(1)",
        "1 ".repeat(66), "1 ".repeat(67), "1 ".repeat(68), "1 ".repeat(69), "1 ".repeat(70), "(".repeat(70), "'".repeat(70)};

    private CallsTest() {
    }

    public static void main(String[] arguments) {
        refusedTokens();
        refusedUntoken();
        refusedQuestions();
        afterARefusal();
        extremeArguments();
        anyOrder();
        allTheCalls();
        changesBetween();
        CHECKS.end();
    }

    /** BAD_ARG and FULL change nothing, in any state. */
    private static void refusedTokens() {
        for (String text : TEXTS) {
            int[] tokens = Texts.tokens(text);
            for (int bad : new int[] {Integer.MIN_VALUE, -2, 5, 9, 46, 49, 65, Integer.MAX_VALUE}) {
                CHECKS.refused(bad + " first at " + text, tokens, x -> x.tokens(bad, 10, 10, 10), ListMachine.BAD_ARG);
                CHECKS.refused(bad + " last at " + text, tokens, x -> x.tokens(0, 1, 1, bad), ListMachine.BAD_ARG);
                CHECKS.refused(bad + " alone at " + text, tokens, x -> x.tokens(-1, bad, -1, -1), ListMachine.BAD_ARG);
            }
            if (tokens.length > 66) {
                CHECKS.refused("four at " + text, tokens, x -> x.tokens(1, 1, 1, 1), ListMachine.FULL);
            }
            if (tokens.length == 70) {
                CHECKS.refused("one at " + text, tokens, x -> x.tokens(-1, -1, 1, -1), ListMachine.FULL);
            }
        }
    }

    /** NONE of untoken changes nothing, however often. */
    private static void refusedUntoken() {
        CHECKS.refused("untoken", new int[0], x -> x.untoken(), ListMachine.NONE);
        ListMachine machine = new ListMachine();
        for (int i = 0; i < 100; i++) {
            CHECKS.same("untoken " + i, machine.untoken(), ListMachine.NONE);
        }
        CHECKS.same("tokens then", machine.tokens(0, 1, -1, -1), 2);
        CHECKS.same("tokens in order", Answers.takenOff(machine), "[0, 1] " + ListMachine.NONE);
        for (String text : TEXTS) {
            ListMachine emptied = Texts.machine(text);
            int length = Texts.tokens(text).length;
            for (int i = 0; i < length; i++) {
                emptied.untoken();
            }
            CHECKS.same("emptied: untoken", emptied.untoken(), ListMachine.NONE);
            CHECKS.same("emptied: answers", Answers.of(emptied), Answers.of(new ListMachine()));
        }
    }

    /** Questions for what there is not change nothing. */
    private static void refusedQuestions() {
        for (String text : TEXTS) {
            int[] tokens = Texts.tokens(text);
            for (int i : new int[] {Integer.MIN_VALUE, -1, 120, Integer.MAX_VALUE}) {
                CHECKS.refused("kind " + i + " of " + text, tokens, x -> x.kind(i), ListMachine.NONE);
                CHECKS.refused("number " + i + " of " + text, tokens, x -> x.number(i), 0);
                CHECKS.refused("output " + i + " of " + text, tokens, x -> x.output(i), 0);
            }
        }
    }

    /** What fits after a refusal is appended behind what was there before it. */
    private static void afterARefusal() {
        ListMachine machine = Texts.machine("(add 1");
        CHECKS.same("wrong", machine.tokens(12, 1, 10, 46), ListMachine.BAD_ARG);
        CHECKS.same("right", machine.tokens(12, 1, -1, -1), 5);
        CHECKS.same("value", Texts.written(machine), "3");
        machine = Texts.machine("1 ".repeat(66) + "(begin");
        CHECKS.same("one too many", machine.tokens(12, 13, 1, -1), ListMachine.FULL);
        CHECKS.same("as many as fit", machine.tokens(-1, 14, 1, -1), 70);
        CHECKS.same("value of the full text", Texts.written(machine), "4");
        CHECKS.same("none fits now", machine.tokens(15, -1, -1, -1), ListMachine.FULL);
        CHECKS.same("last", machine.untoken(), 1);
        CHECKS.same("wrong at 69", machine.tokens(5, -1, -1, -1), ListMachine.BAD_ARG);
        CHECKS.same("two at 69", machine.tokens(15, 1, -1, -1), ListMachine.FULL);
        CHECKS.same("one at 69", machine.tokens(-1, -1, -1, 1), 70);
        CHECKS.same("value again", Texts.written(machine), "4");
    }

    /** "No call ever throws": each with arguments from end to end, in each state. */
    private static void extremeArguments() {
        for (String text : TEXTS) {
            ListMachine machine = Texts.machine(text);
            for (int i : FAR) {
                machine.kind(i);
                machine.number(i);
                machine.output(i);
                int answer = machine.tokens(i, -1, -1, i);
                CHECKS.holds("tokens of " + i, answer >= 0 && answer <= 70 || answer == ListMachine.BAD_ARG
                    || answer == ListMachine.FULL);
                machine.run();
            }
            CHECKS.holds("run of " + text, machine.run() >= 0 && machine.run() <= 8);
            machine.clear();
            CHECKS.same("cleared", Answers.of(machine), Answers.of(new ListMachine()));
        }
    }

    /** No question leans on another one that was asked before it. */
    private static void anyOrder() {
        for (String text : TEXTS) {
            int[] forwards = new int[9];
            int[] backwards = new int[9];
            int[] alone = new int[9];
            ListMachine first = Texts.machine(text);
            ListMachine second = Texts.machine(text);
            for (int i = 0; i < 9; i++) {
                forwards[i] = question(first, i);
                backwards[8 - i] = question(second, 8 - i);
                alone[i] = question(Texts.machine(text), i);
            }
            CHECKS.same(text + " backwards", Arrays.toString(backwards), Arrays.toString(forwards));
            CHECKS.same(text + " alone", Arrays.toString(alone), Arrays.toString(forwards));
        }
    }

    private static int question(ListMachine machine, int which) {
        switch (which) {
            case 0:
                return machine.run();
            case 1:
                return machine.items();
            case 2:
                return machine.kind(0);
            case 3:
                return machine.number(0);
            case 4:
                return machine.printed();
            case 5:
                return machine.output(0);
            case 6:
                return machine.counted();
            case 7:
                return machine.conses();
            default:
                return machine.entries();
        }
    }

    /** "An object is used for at most 512 calls": the last of them is answered like the first. */
    private static void allTheCalls() {
        for (String text : TEXTS) {
            allTheCallsOf(text);
        }
        // Runs that make many pairs, places, procedures and continuations.
        allTheCallsOf("(define a (lambda (b) (a (cons b b)))) (a 1)");
        allTheCallsOf("(define a (lambda (b c d e) (a b c d e))) (a 1 2 3 4)");
        allTheCallsOf("(define a (lambda () (lambda () 1) (a))) (a)");
        allTheCallsOf("(define a (lambda (b) (callcc a))) (a 1)");
        allTheCallsOf("(define a (callcc (lambda (b) b))) (a a)");
        ListMachine machine = new ListMachine();
        for (int call = 1; call <= MOST_CALLS; call += 2) {
            CHECKS.same("tokens as call " + call, machine.tokens(14, -1, -1, -1), 1);
            CHECKS.same("untoken as call " + (call + 1), machine.untoken(), 14);
        }
    }

    private static void allTheCallsOf(String text) {
        ListMachine machine = Texts.machine(text);
        int[] due = new int[9];
        for (int i = 0; i < 9; i++) {
            due[i] = question(Texts.machine(text), i);
        }
        int made = (Texts.tokens(text).length + 3) / 4;
        for (int call = made + 1; call <= MOST_CALLS; call++) {
            CHECKS.same("call " + call + " of " + text, question(machine, call % 9), due[call % 9]);
        }
    }

    /** Each answer is that of the text as it is at that time: after each change it is as on a new object. */
    private static void changesBetween() {
        ListMachine machine = new ListMachine();
        int[] tokens = Texts.tokens("(print 4) (cons 1 (callcc (lambda (a) (a 2)))) 'b");
        for (int length = 1; length <= tokens.length; length++) {
            machine.tokens(tokens[length - 1], -1, -1, -1);
            agrees(machine, Arrays.copyOf(tokens, length));
        }
        machine = Texts.machine(tokens);
        for (int length = tokens.length - 1; length >= 0; length--) {
            machine.untoken();
            agrees(machine, Arrays.copyOf(tokens, length));
        }
    }

    private static void agrees(ListMachine machine, int[] tokens) {
        for (int i = 0; i < 9; i++) {
            CHECKS.same("question " + i + " of " + Arrays.toString(tokens), question(machine, i),
                question(Texts.machine(tokens), i));
        }
    }
}
