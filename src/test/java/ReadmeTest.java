import java.io.IOException;
import java.nio.file.Files;
import java.nio.file.Path;
import java.util.Arrays;
import java.util.regex.Matcher;
import java.util.regex.Pattern;

/** The examples in README.md: each call is made, and answers what the comment behind it says. */
public final class ReadmeTest {
    private static final Pattern CALL = Pattern.compile("machine\\.(\\w+)\\((.*)\\);(?: *// (.*))?");
    private static final Pattern ANSWER = Pattern.compile("(-?\\d+)\\b.*");
    private static final Checks CHECKS = new Checks();

    private static ListMachine machine = new ListMachine();

    private ReadmeTest() {
    }

    public static void main(String[] arguments) throws IOException, ReflectiveOperationException {
        boolean isExample = false;
        int calls = 0;
        for (String line : Files.readAllLines(Path.of("README.md"))) {
            if (line.startsWith("```")) {
                isExample = line.equals("```java");
            } else if (isExample && line.equals("ListMachine machine = new ListMachine();")) {
                machine = new ListMachine();
            } else if (isExample) {
                Matcher call = CALL.matcher(line);
                CHECKS.holds("a call that is understood: " + line, call.matches());
                call(line, call.group(1), numbers(call.group(2)), call.group(3));
                calls++;
            }
        }
        CHECKS.holds("there are examples", calls > 20);
        CHECKS.end();
    }

    private static int[] numbers(String given) {
        return given.isEmpty() ? new int[0] : Arrays.stream(given.split(", ")).mapToInt(Integer::parseInt).toArray();
    }

    private static void call(String line, String name, int[] given, String comment) throws ReflectiveOperationException {
        Class<?>[] types = new Class<?>[given.length];
        Arrays.fill(types, int.class);
        Object answer = ListMachine.class.getMethod(name, types).invoke(machine, Arrays.stream(given).boxed().toArray());
        if (name.equals("tokens")) {
            CHECKS.holds(line + " is taken", (Integer) answer > 0);
            int[] tokens = Arrays.stream(given).filter(token -> token != -1).toArray();
            CHECKS.same(line, Arrays.toString(tokens), Arrays.toString(Texts.tokens(comment)));
        } else if (!name.equals("clear")) {
            Matcher due = ANSWER.matcher(comment);
            CHECKS.holds("an answer is told: " + line, due.matches());
            CHECKS.same(line, (Integer) answer, Integer.parseInt(due.group(1)));
        }
    }
}
