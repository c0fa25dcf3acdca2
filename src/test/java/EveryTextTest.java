import java.util.Arrays;

/**
 * All promises, on every small text there is, readable or not: the program and the reference answer
 * alike. Generated texts (ReferenceTest) are long and likely; these leave none out.
 */
public final class EveryTextTest {
    private static final int[] ALL = allTokens();
    /** One or two tokens of each sort, so that longer texts can all be tried. */
    private static final int[] SOME = Texts.tokens("() ' false 2 a b d quote if lambda define set begin cons cdr same add setcdr print callcc apply");
    private static final String VALUES = "(define a '(1 2)) (define b (lambda (a) (set a (add a 1)) a)) (define d (callcc (lambda (a) a)))";

    private static final Checks CHECKS = new Checks();

    private EveryTextTest() {
    }

    public static void main(String[] arguments) {
        everyText("", ALL, 0, "");
        everyText("", ALL, 1, "");
        everyText("", ALL, 2, "");
        everyText("", ALL, 3, "");
        everyText(VALUES, ALL, 1, "");
        everyText(VALUES + "(", SOME, 4, ")");
        everyText(VALUES, SOME, 3, "(d 5) (cons a (cons b d))");
        CHECKS.end();
    }

    private static int[] allTokens() {
        int[] all = new int[56];
        int count = 0;
        for (int token = 0; token <= 64; token++) {
            if (token <= 4 || token >= 10 && token <= 45 || token >= 50) {
                all[count] = token;
                count++;
            }
        }
        return all;
    }

    /** Every text of this many of the tokens, behind and before forms that give it values to meet. */
    private static void everyText(String before, int[] tokens, int length, String behind) {
        int[] head = Texts.tokens(before);
        int[] tail = Texts.tokens(behind);
        int[] text = Arrays.copyOf(head, head.length + length + tail.length);
        System.arraycopy(tail, 0, text, head.length + length, tail.length);
        int texts = 1;
        for (int i = 0; i < length; i++) {
            texts *= tokens.length;
        }
        for (int i = 0; i < texts; i++) {
            int left = i;
            for (int at = head.length; at < head.length + length; at++) {
                text[at] = tokens[left % tokens.length];
                left /= tokens.length;
            }
            CHECKS.alike(Arrays.toString(text), Texts.machine(text), new Reference(text));
        }
    }
}
