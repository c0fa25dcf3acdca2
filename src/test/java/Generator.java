import java.util.ArrayList;
import java.util.List;

/**
 * Makes texts, the same ones for the same seed: most are programs whose parts nearly always fit
 * together (a is a number there, b a list, c a procedure of one value, d a continuation), some are
 * spoilt, some are tokens without order.
 */
final class Generator {
    private static final int OPEN = 0;
    private static final int CLOSE = 1;
    private static final int MARK = 2;
    private static final int A = 30;
    private static final int B = 31;
    private static final int C = 32;
    private static final int D = 33;
    private static final int E = 34;
    private static final int LONGEST = 70;

    private long seed;
    private final List<Integer> made = new ArrayList<>();

    Generator(long seed) {
        this.seed = seed * 2862933555777941757L + 3037000493L;
    }

    private int below(int bound) {
        seed = seed * 6364136223846793005L + 1442695040888963407L;
        return (int) ((seed >>> 33) % bound);
    }

    private boolean oneIn(int bound) {
        return below(bound) == 0;
    }

    int[] text() {
        made.clear();
        if (oneIn(12)) {
            soup();
        } else if (oneIn(3)) {
            loop();
        } else {
            program();
        }
        if (oneIn(8)) {
            spoil();
        }
        return made.stream().mapToInt(Integer::intValue).toArray();
    }

    private void put(int... tokens) {
        for (int token : tokens) {
            made.add(token);
        }
    }

    private int anyToken() {
        int pick = below(5 + 36 + 15);
        return pick < 5 ? pick : pick < 41 ? pick + 5 : pick + 9;
    }

    private void soup() {
        int length = below(12);
        for (int i = 0; i < length; i++) {
            put(oneIn(2) ? below(3) : anyToken());
        }
    }

    private void spoil() {
        if (made.isEmpty()) {
            return;
        }
        int place = below(made.size());
        int way = below(3);
        if (way == 0) {
            made.remove(place);
        } else if (way == 1) {
            made.set(place, anyToken());
        } else if (made.size() < LONGEST) {
            made.add(place, anyToken());
        }
    }

    private void cutTo(int before) {
        if (made.size() > LONGEST) {
            made.subList(before, made.size()).clear();
        }
    }

    private void program() {
        int wanted = 1 + below(5);
        if (!oneIn(4)) {
            put(OPEN, 43, A, 10 + below(20), CLOSE);
            put(OPEN, 43, B, MARK, OPEN, 11, 12, CLOSE, CLOSE);
        }
        if (oneIn(2)) {
            put(OPEN, 43, D, OPEN, 63, OPEN, 42, OPEN, E, CLOSE, E, CLOSE, CLOSE, CLOSE);
        } else if (oneIn(2)) {
            put(OPEN, 43, C, OPEN, 42, OPEN, E, CLOSE);
            any(2);
            put(CLOSE, CLOSE);
        }
        for (int i = 0; i < wanted; i++) {
            int before = made.size();
            if (oneIn(3)) {
                define(3);
            } else {
                any(3);
            }
            cutTo(before);
        }
    }

    private void define(int depth) {
        int name = A + below(4);
        put(OPEN, 43, name);
        if (name == A) {
            number(depth);
        } else if (name == B) {
            list(depth);
        } else if (name == C) {
            procedure(depth);
        } else {
            put(OPEN, 63, OPEN, 42, OPEN, E, CLOSE, E, CLOSE, CLOSE);
        }
        put(CLOSE);
    }

    /** Something is done again and again: by a continuation kept in d, or by the procedure c. */
    private void loop() {
        put(OPEN, 43, A, 10 + below(4), CLOSE, OPEN, 43, B, MARK, OPEN, 11, CLOSE, CLOSE);
        int start = made.size();
        int way = below(3);
        if (way == 0) {
            put(OPEN, 43, D, OPEN, 63, OPEN, 42, OPEN, E, CLOSE, E, CLOSE, CLOSE, CLOSE);
        } else if (way == 1) {
            put(OPEN, 43, D, A, CLOSE, OPEN, 56 + below(3), A, OPEN, 63, OPEN, 42, OPEN, E, CLOSE, OPEN, 45, OPEN, 44, D, E);
            put(CLOSE, 11, CLOSE, CLOSE, CLOSE, CLOSE);
        } else {
            put(OPEN, 43, C, OPEN, 42, OPEN, E, CLOSE);
        }
        int middle = made.size();
        any(2);
        if (made.size() > 48) {
            made.subList(middle, made.size()).clear();
        }
        put(OPEN, 44, A, OPEN, 56, A, 11, CLOSE, CLOSE);
        put(OPEN, 41, OPEN, 59, A, 10 + below(20), CLOSE);
        put(OPEN, way == 2 ? C : D, way == 0 ? D : A, CLOSE, oneIn(2) ? A : B, CLOSE);
        if (way == 2) {
            put(CLOSE, CLOSE, OPEN, C, 11, CLOSE);
        }
        cutTo(start);
    }

    private boolean isShort(int depth) {
        return depth <= 0 || made.size() > 58;
    }

    private void any(int depth) {
        int pick = below(12);
        if (pick < 3) {
            number(depth);
        } else if (pick < 6) {
            list(depth);
        } else if (pick < 7) {
            truth(depth);
        } else if (pick < 8) {
            procedure(depth);
        } else if (pick < 9 && !isShort(depth)) {
            put(OPEN, 44, A + below(2));
            number(depth - 1);
            put(CLOSE);
        } else if (pick < 10 && !isShort(depth)) {
            put(OPEN, 60 + below(2));
            list(depth - 1);
            any(depth - 1);
            put(CLOSE);
        } else if (pick < 11) {
            form(depth);
        } else {
            define(depth - 1);
        }
    }

    private boolean isOther(int depth) {
        if (oneIn(40)) {
            form(depth);
            return true;
        }
        return false;
    }

    private void number(int depth) {
        if (isOther(depth)) {
            return;
        }
        if (isShort(depth)) {
            put(oneIn(2) ? A : 10 + below(20));
            return;
        }
        put(OPEN);
        int pick = below(11);
        if (pick < 3) {
            put(56 + below(3));
            number(depth - 1);
            number(depth - 1);
        } else if (pick < 4) {
            put(51);
            list(depth - 1);
        } else if (pick < 5) {
            put(62);
            number(depth - 1);
        } else if (pick < 6) {
            procedure(depth - 1);
            any(depth - 1);
        } else if (pick < 8) {
            put(63, OPEN, 42, OPEN, D, CLOSE);
            any(depth - 1);
            number(depth - 1);
            put(CLOSE);
        } else if (pick < 9) {
            put(64, 56 + below(3), MARK, OPEN, 10 + below(20), 10 + below(20), CLOSE);
        } else if (pick < 10) {
            put(41);
            truth(depth - 1);
            number(depth - 1);
            number(depth - 1);
        } else {
            put(D);
            number(depth - 1);
        }
        put(CLOSE);
    }

    private void list(int depth) {
        if (isOther(depth)) {
            return;
        }
        int pick = below(6);
        if (isShort(depth) || pick == 0) {
            put(B);
        } else if (pick == 1) {
            put(MARK);
            datumList(2);
        } else if (pick < 4) {
            put(OPEN, 50);
            any(depth - 1);
            list(depth - 1);
            put(CLOSE);
        } else if (pick == 4) {
            put(OPEN, 52);
            list(depth - 1);
            put(CLOSE);
        } else {
            put(OPEN, 45, OPEN, 60 + below(2), B);
            any(depth - 1);
            put(CLOSE, B, CLOSE);
        }
    }

    private void procedure(int depth) {
        int pick = below(6);
        if (isShort(depth) || pick == 0) {
            put(C);
        } else if (pick == 1) {
            put(List.of(51, 52, 53, 54, 62, 63).get(below(6)));
        } else if (pick == 2) {
            put(D);
        } else {
            put(OPEN, 42, OPEN, A + below(5), CLOSE);
            for (int i = below(2); i >= 0; i--) {
                any(depth - 1);
            }
            put(CLOSE);
        }
    }

    private void truth(int depth) {
        int pick = below(5);
        if (isShort(depth) || pick == 0) {
            put(3 + below(2));
            return;
        }
        put(OPEN);
        if (pick == 1) {
            put(53 + below(2));
            list(depth - 1);
        } else if (pick == 2) {
            put(55);
            any(depth - 1);
            any(depth - 1);
        } else {
            put(59);
            number(depth - 1);
            number(depth - 1);
        }
        put(CLOSE);
    }

    /** Any form at all, fitting or not. */
    private void form(int depth) {
        int pick = below(8);
        if (isShort(depth) || pick == 0) {
            put(30 + below(10));
        } else if (pick == 1) {
            put(3 + below(2));
        } else if (pick == 2) {
            put(50 + below(15));
        } else if (pick == 3) {
            put(MARK);
            datum(2);
        } else {
            put(OPEN, pick < 6 ? 50 + below(15) : 40 + below(6));
            if (oneIn(3)) {
                datumList(1);
            }
            for (int i = below(4); i > 0; i--) {
                any(depth - 1);
            }
            put(CLOSE);
        }
    }

    private void datum(int depth) {
        if (oneIn(8)) {
            put(MARK);
        }
        if (depth <= 0 || oneIn(3)) {
            int token = anyToken();
            put(token < 3 ? 10 : token);
        } else {
            datumList(depth);
        }
    }

    private void datumList(int depth) {
        put(OPEN);
        for (int i = below(4); i > 0; i--) {
            datum(depth - 1);
        }
        put(CLOSE);
    }
}
