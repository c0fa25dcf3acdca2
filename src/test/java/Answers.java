import java.util.Arrays;
import java.util.StringJoiner;

/** All that an object answers about its text, in one line, so that objects can be compared. */
final class Answers {
    private static final int MOST_ITEMS = 120;
    private static final int MOST_PRINTED = 20;

    private Answers() {
    }

    /** Some 290 calls, none of which changes the object. */
    static String of(ListMachine machine) {
        StringJoiner all = new StringJoiner(" ");
        all.add("tokens " + machine.tokens(-1, -1, -1, -1));
        all.add("reads " + machine.reads());
        all.add("forms " + machine.forms());
        all.add("run " + machine.run());
        all.add("counted " + machine.counted());
        all.add("conses " + machine.conses());
        all.add("entries " + machine.entries());
        all.add("printed " + machine.printed());
        for (int k = -1; k <= MOST_PRINTED; k++) {
            all.add("" + machine.output(k));
        }
        all.add("items " + machine.items());
        int last = Math.min(Math.max(machine.items(), 1), MOST_ITEMS);
        for (int i = -1; i <= last; i++) {
            all.add(machine.kind(i) + ":" + machine.number(i));
        }
        return all.toString();
    }

    /** The tokens, taken off one by one: the object has no text then. */
    static String takenOff(ListMachine machine) {
        int length = machine.tokens(-1, -1, -1, -1);
        int[] tokens = new int[Math.max(length, 0)];
        for (int i = tokens.length - 1; i >= 0; i--) {
            tokens[i] = machine.untoken();
        }
        return Arrays.toString(tokens) + " " + machine.untoken();
    }
}
