import java.util.ArrayList;
import java.util.Arrays;
import java.util.List;
import java.util.function.ToIntFunction;

/** Compares answers, prints each one that is not as due, and ends the test with exit code 1 if there was one. */
final class Checks {
    private int made = 0;
    private int wrong = 0;

    void same(String what, long got, long due) {
        made++;
        if (got != due) {
            wrong++;
            System.out.println(what + ": answered " + got + ", due is " + due);
        }
    }

    void same(String what, String got, String due) {
        made++;
        if (!got.equals(due)) {
            wrong++;
            System.out.println(what + ": answered " + got + ", due is " + due);
        }
    }

    void holds(String what, boolean got) {
        same(what, got ? 1 : 0, 1);
    }

    /** The text runs to the end, and its value is written as due (see Texts.written). */
    void value(String text, String due) {
        ListMachine machine = Texts.machine(text);
        same(text + " run", machine.run(), ListMachine.DONE);
        same(text + " value", Texts.written(machine), due);
    }

    /** The run ends this way, so that there is no value to be written. */
    void ends(String text, int due) {
        ListMachine machine = Texts.machine(text);
        same(text + " run", machine.run(), due);
        same(text + " items", machine.items(), ListMachine.NONE);
        same(text + " kind(0)", machine.kind(0), ListMachine.NONE);
        same(text + " number(0)", machine.number(0), 0);
    }

    void prints(String text, int... due) {
        ListMachine machine = Texts.machine(text);
        List<Integer> dueList = new ArrayList<>();
        for (int number : due) {
            dueList.add(number);
        }
        same(text + " printed", machine.printed(), due.length);
        List<Integer> got = new ArrayList<>();
        for (int k = 0; k < machine.printed(); k++) {
            got.add(machine.output(k));
        }
        same(text + " output", got.toString(), dueList.toString());
    }

    void counts(String text, int counted, int conses, int entries) {
        ListMachine machine = Texts.machine(text);
        same(text + " counted", machine.counted(), counted);
        same(text + " conses", machine.conses(), conses);
        same(text + " entries", machine.entries(), entries);
    }

    /**
     * The call answers the code, and changes nothing: all later answers are those of an object that
     * did not get the call, and the tokens are the same.
     */
    void refused(String what, int[] text, ToIntFunction<ListMachine> call, int due) {
        ListMachine machine = Texts.machine(text);
        machine.run();
        same(what, call.applyAsInt(machine), due);
        same(what + ": the answers then", Answers.of(machine), Answers.of(Texts.machine(text)));
        same(what + ": the tokens then", Answers.takenOff(machine), Arrays.toString(text) + " " + ListMachine.NONE);
    }

    /** How the run ends, and how many it has counted by then. */
    void endsAt(String text, int ending, int counted) {
        ListMachine machine = Texts.machine(text);
        same(text + " run", machine.run(), ending);
        same(text + " counted", machine.counted(), counted);
    }

    /** The program answers as the reference does, whatever it is asked. */
    void alike(String what, ListMachine machine, Reference reference) {
        same(what + " reads", machine.reads() ? 1 : 0, reference.forms == ListMachine.NONE ? 0 : 1);
        same(what + " forms", machine.forms(), reference.forms);
        same(what + " run", machine.run(), reference.ending);
        same(what + " counted", machine.counted(), reference.counted);
        same(what + " conses", machine.conses(), reference.conses);
        same(what + " entries", machine.entries(), reference.entries);
        same(what + " printed", machine.printed(), reference.printed.size());
        for (int k = 0; k < reference.printed.size(); k++) {
            same(what + " output " + k, machine.output(k), reference.printed.get(k));
        }
        int none = reference.isLong ? ListMachine.LONG : ListMachine.NONE;
        int count = reference.items == null ? 0 : reference.items.size();
        same(what + " items", machine.items(), reference.items == null ? none : count);
        for (int i = 0; i < count; i++) {
            same(what + " kind " + i, machine.kind(i), reference.items.get(i)[0]);
            same(what + " number " + i, machine.number(i), reference.items.get(i)[1]);
        }
        same(what + " kind behind the last", machine.kind(count), ListMachine.NONE);
        same(what + " number behind the last", machine.number(count), 0);
    }

    void end() {
        System.out.println(made + " answers, " + wrong + " not as due");
        if (wrong != 0) {
            System.exit(1);
        }
    }
}
