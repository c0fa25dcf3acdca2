/** Texts that count as many as is wanted, to bring a run close to its limit. */
final class Counting {
    /** Counts 2, and with each "(b k)" 14 k + 11 more. It uses the names a and b. */
    private static final String LOOP = "(define b (lambda (a) (if (less 0 a) (b (sub a 1)) 0))) ";

    private Counting() {
    }

    /** Forms that count this many, 600 at most, in 49 tokens at most. */
    static String upTo(int counted) {
        StringBuilder text = new StringBuilder();
        int left = counted;
        if (left > 2) {
            text.append(LOOP);
            left -= 2;
        }
        while (left >= 11) {
            int turns = Math.min(19, (left - 11) / 14);
            text.append("(b ").append(turns).append(") ");
            left -= 14 * turns + 11;
        }
        return text.append("0 ".repeat(left)).toString();
    }
}
