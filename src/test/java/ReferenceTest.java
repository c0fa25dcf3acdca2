import java.util.Arrays;

/** All promises: on many texts, the program and the reference answer alike. */
public final class ReferenceTest {
    private static final int TEXTS = 60000;

    private static ListMachine machine = new ListMachine();
    private static int calls = 0;

    private ReferenceTest() {
    }

    public static void main(String[] arguments) {
        Checks checks = new Checks();
        int[] endings = new int[9];
        int[] seen = new int[5];
        Generator generator = new Generator(arguments.length > 0 ? Long.parseLong(arguments[0]) : 1);
        for (int i = 0; i < TEXTS; i++) {
            int[] text = generator.text();
            if (text.length <= 70) {
                Reference reference = new Reference(text);
                checks.alike(Arrays.toString(text), machineFor(text, reference), reference);
                endings[reference.ending]++;
                note(seen, reference);
            }
        }
        System.out.println("endings " + Arrays.toString(endings));
        System.out.println("printing, consing, entering, entering thrice, long " + Arrays.toString(seen));
        for (int ending = 0; ending < endings.length; ending++) {
            checks.holds("texts that end with " + ending, endings[ending] > 0);
        }
        for (int i = 0; i < seen.length; i++) {
            checks.holds("texts of sort " + i, seen[i] > 0);
        }
        checks.end();
    }

    private static void note(int[] seen, Reference reference) {
        seen[0] += reference.printed.isEmpty() ? 0 : 1;
        seen[1] += reference.conses > 0 ? 1 : 0;
        seen[2] += reference.entries > 0 ? 1 : 0;
        seen[3] += reference.entries > 2 ? 1 : 0;
        seen[4] += reference.isLong ? 1 : 0;
    }

    /** The object that the text before was run on, as long as it may be used, so that what is left over would be seen. */
    private static ListMachine machineFor(int[] text, Reference reference) {
        int needed = 32 + reference.printed.size() + (reference.items == null ? 0 : 2 * reference.items.size());
        calls += needed;
        if (calls > 512) {
            calls = needed;
            machine = new ListMachine();
        }
        machine.clear();
        Texts.append(machine, text);
        return machine;
    }
}
