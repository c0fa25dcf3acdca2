/** Promises 1 to 6: what becomes of the text, and whether it can be read. */
public final class TextTest {
    private static final Checks CHECKS = new Checks();

    private TextTest() {
    }

    public static void main(String[] arguments) {
        newObject();
        appending();
        wrongTokens();
        fullText();
        takingOff();
        clearing();
        reading();
        CHECKS.end();
    }

    private static void newObject() {
        ListMachine machine = new ListMachine();
        CHECKS.same("new: untoken", machine.untoken(), ListMachine.NONE);
        CHECKS.holds("new: reads", machine.reads());
        CHECKS.same("new: forms", machine.forms(), 0);
        CHECKS.same("new: run", machine.run(), ListMachine.DONE);
        CHECKS.same("new: value", Texts.written(machine), "_");
        CHECKS.same("new: counted", machine.counted(), 0);
        CHECKS.same("new: conses", machine.conses(), 0);
        CHECKS.same("new: entries", machine.entries(), 0);
        CHECKS.same("new: printed", machine.printed(), 0);
        CHECKS.same("new: tokens", machine.tokens(-1, -1, -1, -1), 0);
    }

    private static void appending() {
        ListMachine machine = new ListMachine();
        CHECKS.same("four", machine.tokens(10, 11, 12, 13), 4);
        CHECKS.same("first and last", machine.tokens(14, -1, -1, 15), 6);
        CHECKS.same("middle two", machine.tokens(-1, 16, 17, -1), 8);
        CHECKS.same("none", machine.tokens(-1, -1, -1, -1), 8);
        for (int token = 17; token >= 10; token--) {
            CHECKS.same("appended in order", machine.untoken(), token);
        }
        CHECKS.same("all taken off", machine.untoken(), ListMachine.NONE);
    }

    private static boolean isToken(int token) {
        return token >= 0 && token <= 4 || token >= 10 && token <= 45 || token >= 50 && token <= 64;
    }

    private static void wrongTokens() {
        for (int token = -3; token <= 70; token++) {
            for (int at = 0; at < 4; at++) {
                ListMachine machine = new ListMachine();
                machine.tokens(19, -1, -1, -1);
                int answer = machine.tokens(at == 0 ? token : -1, at == 1 ? token : 11, at == 2 ? token : -1,
                    at == 3 ? token : -1);
                int others = at == 1 ? 1 : 2;
                int due = isToken(token) ? others + 1 : token == -1 ? others : ListMachine.BAD_ARG;
                CHECKS.same("token " + token + " at " + at, answer, due);
                CHECKS.same("the length then", machine.tokens(-1, -1, -1, -1), due < 0 ? 1 : due);
            }
        }
        ListMachine machine = new ListMachine();
        CHECKS.same("smallest", machine.tokens(Integer.MIN_VALUE, 10, 10, 10), ListMachine.BAD_ARG);
        CHECKS.same("greatest", machine.tokens(10, 10, 10, Integer.MAX_VALUE), ListMachine.BAD_ARG);
        CHECKS.same("nothing was appended", machine.untoken(), ListMachine.NONE);
    }

    private static void fullText() {
        ListMachine machine = new ListMachine();
        for (int i = 1; i <= 17; i++) {
            CHECKS.same("filling", machine.tokens(10, 11, 12, 13), 4 * i);
        }
        CHECKS.same("71", machine.tokens(14, 15, 16, -1), ListMachine.FULL);
        CHECKS.same("72", machine.tokens(14, 15, 16, 17), ListMachine.FULL);
        CHECKS.same("a wrong one before a full text", machine.tokens(14, 15, 16, 5), ListMachine.BAD_ARG);
        CHECKS.same("unchanged", machine.tokens(-1, -1, -1, -1), 68);
        CHECKS.same("70", machine.tokens(-1, 14, -1, 15), 70);
        CHECKS.same("none at 70", machine.tokens(-1, -1, -1, -1), 70);
        CHECKS.same("one at 70", machine.tokens(-1, -1, 10, -1), ListMachine.FULL);
        CHECKS.same("a wrong one at 70", machine.tokens(-1, -1, 46, -1), ListMachine.BAD_ARG);
        CHECKS.same("forms at 70", machine.forms(), 70);
        CHECKS.same("counted at 70", machine.counted(), 70);
        CHECKS.same("value at 70", Texts.written(machine), "5");
        CHECKS.same("last", machine.untoken(), 15);
        CHECKS.same("there is room again", machine.tokens(16, -1, -1, -1), 70);
        for (int at = 0; at < 4; at++) {
            machine.untoken();
            CHECKS.same("three do not fit", machine.tokens(at == 0 ? -1 : 10, at == 1 ? -1 : 10, at == 2 ? -1 : 10,
                at == 3 ? -1 : 10), ListMachine.FULL);
            CHECKS.same("one fits", machine.tokens(at == 0 ? 17 : -1, at == 1 ? 17 : -1, at == 2 ? 17 : -1,
                at == 3 ? 17 : -1), 70);
        }
    }

    private static void takingOff() {
        ListMachine machine = new ListMachine();
        machine.tokens(0, 1, 64, 2);
        CHECKS.same("mark", machine.untoken(), 2);
        CHECKS.same("apply", machine.untoken(), 64);
        CHECKS.holds("() reads", machine.reads());
        CHECKS.same("close", machine.untoken(), 1);
        CHECKS.holds("( does not read", !machine.reads());
        CHECKS.same("open", machine.untoken(), 0);
        CHECKS.same("nothing left", machine.untoken(), ListMachine.NONE);
        CHECKS.same("nothing left again", machine.untoken(), ListMachine.NONE);
        CHECKS.same("length", machine.tokens(-1, -1, -1, -1), 0);
    }

    private static void clearing() {
        ListMachine machine = Texts.machine("(print 4) (cons 1 2)");
        machine.clear();
        CHECKS.same("cleared: length", machine.tokens(-1, -1, -1, -1), 0);
        CHECKS.same("cleared: value", Texts.written(machine), "_");
        CHECKS.same("cleared: printed", machine.printed(), 0);
        CHECKS.same("cleared: conses", machine.conses(), 0);
        CHECKS.same("cleared: untoken", machine.untoken(), ListMachine.NONE);
        machine.clear();
        CHECKS.same("cleared again", machine.tokens(13, -1, -1, -1), 1);
        CHECKS.same("cleared: new value", Texts.written(machine), "3");
    }

    private static void reading() {
        readable("", 0);
        readable("1", 1);
        readable("true false a quote if cons", 6);
        readable("()", 1);
        readable("() ()", 2);
        readable("(())", 1);
        readable("'1", 1);
        readable("''1 2", 2);
        readable("'()", 1);
        readable("'(1 '2) 'a", 2);
        readable("(' ' ' a)", 1);
        readable("((1 2) (3) ) (quote)", 2);
        unreadable("(");
        unreadable(")");
        unreadable(")(");
        unreadable("'");
        unreadable("''");
        unreadable("1 '");
        unreadable("(')");
        unreadable("(1 2 ')");
        unreadable("'(");
        unreadable("')");
        unreadable("(()");
        unreadable("())");
        unreadable("() ) (");
        unreadable("1 2 (3");
    }

    private static void readable(String text, int forms) {
        ListMachine machine = Texts.machine(text);
        CHECKS.holds("[" + text + "] reads", machine.reads());
        CHECKS.same("[" + text + "] forms", machine.forms(), forms);
        CHECKS.holds("[" + text + "] runs", machine.run() != ListMachine.UNREADABLE);
    }

    private static void unreadable(String text) {
        ListMachine machine = Texts.machine(text);
        CHECKS.holds("[" + text + "] does not read", !machine.reads());
        CHECKS.same("[" + text + "] forms", machine.forms(), ListMachine.NONE);
        CHECKS.ends(text, ListMachine.UNREADABLE);
        CHECKS.prints(text);
        CHECKS.counts(text, 0, 0, 0);
    }
}
