import java.util.ArrayList;
import java.util.HashMap;
import java.util.HashSet;
import java.util.IdentityHashMap;
import java.util.List;
import java.util.Map;
import java.util.Set;

/**
 * The document once more, written in another way than the program: forms are Java objects, and
 * what is left to do is a chain of Java lambdas, so that the two don't share their mistakes.
 */
final class Reference {
    interface Step {
        Step go();
    }

    interface Rest {
        Step give(Object value);
    }

    record Symbol(int token) {
    }

    record BuiltIn(int token) {
    }

    static final class Pair {
        Object first;
        Object rest;

        Pair(Object first, Object rest) {
            this.first = first;
            this.rest = rest;
        }
    }

    static final class Procedure {
        final List<Integer> names;
        final List<Object> body;
        final Environment kept;

        Procedure(List<Integer> names, List<Object> body, Environment kept) {
            this.names = names;
            this.body = body;
            this.kept = kept;
        }
    }

    static final class Continuation {
        final Rest rest;

        Continuation(Rest rest) {
            this.rest = rest;
        }
    }

    static final class Environment {
        final Map<Integer, Object> places = new HashMap<>();
        final Environment outer;

        Environment(Environment outer) {
            this.outer = outer;
        }

        Environment of(int name) {
            return outer == null || places.containsKey(name) ? this : outer.of(name);
        }
    }

    static final class Ended extends RuntimeException {
        private static final long serialVersionUID = 1L;
        final int code;

        Ended(int code) {
            super(null, null, false, false);
            this.code = code;
        }
    }

    static final Object EMPTY = new Object();
    static final Object NOTHING = new Object();

    final int[] text;
    int forms;
    int ending;
    int counted;
    int conses;
    int entries;
    final List<Integer> printed = new ArrayList<>();
    List<int[]> items = null;
    boolean isLong = false;

    private int at = 0;
    private final Environment global = new Environment(null);
    private Object value = NOTHING;

    Reference(int[] text) {
        this.text = text;
        List<Object> all = new ArrayList<>();
        try {
            while (at < text.length) {
                all.add(readForm());
            }
            forms = all.size();
        } catch (Ended unreadable) {
            forms = ListMachine.NONE;
            ending = unreadable.code;
            return;
        }
        run(all);
        if (ending == ListMachine.DONE) {
            items = new ArrayList<>();
            try {
                write(value);
            } catch (Ended tooLong) {
                isLong = true;
                items = null;
            }
        }
    }

    private Object readForm() {
        if (at >= text.length) {
            throw new Ended(ListMachine.UNREADABLE);
        }
        int token = text[at++];
        if (token == 1) {
            throw new Ended(ListMachine.UNREADABLE);
        }
        if (token == 2) {
            return listOf(List.of(new Symbol(40), readForm()));
        }
        if (token != 0) {
            return token == 3 ? Boolean.TRUE : token == 4 ? Boolean.FALSE : token < 30 ? (Object) (token - 10) : new Symbol(token);
        }
        List<Object> parts = new ArrayList<>();
        while (at < text.length && text[at] != 1) {
            parts.add(readForm());
        }
        if (at >= text.length) {
            throw new Ended(ListMachine.UNREADABLE);
        }
        at++;
        return listOf(parts);
    }

    private static Object listOf(List<Object> parts) {
        Object list = EMPTY;
        for (int i = parts.size() - 1; i >= 0; i--) {
            list = new Pair(parts.get(i), list);
        }
        return list;
    }

    /** Empty if it does not end with the empty list. */
    private static java.util.Optional<List<Object>> partsOf(Object list) {
        List<Object> parts = new ArrayList<>();
        Map<Pair, Boolean> passed = new IdentityHashMap<>();
        Object rest = list;
        while (rest instanceof Pair) {
            Pair pair = (Pair) rest;
            if (passed.put(pair, true) != null) {
                return java.util.Optional.empty();
            }
            parts.add(pair.first);
            rest = pair.rest;
        }
        return rest == EMPTY ? java.util.Optional.of(parts) : java.util.Optional.empty();
    }

    private void run(List<Object> all) {
        try {
            Step step = all.isEmpty() ? null : inOrder(all, 0, global, last -> {
                value = last;
                return null;
            });
            while (step != null) {
                step = step.go();
            }
            ending = ListMachine.DONE;
        } catch (Ended end) {
            ending = end.code;
        }
    }

    private void count() {
        if (counted == 600) {
            throw new Ended(ListMachine.TIRED);
        }
        counted++;
    }

    private static void need(boolean holds, int code) {
        if (!holds) {
            throw new Ended(code);
        }
    }

    private Step inOrder(List<Object> all, int i, Environment in, Rest then) {
        if (i == all.size() - 1) {
            return workOut(all.get(i), in, then);
        }
        return workOut(all.get(i), in, ignored -> inOrder(all, i + 1, in, then));
    }

    private Step workOut(Object form, Environment in, Rest then) {
        return () -> {
            count();
            if (form instanceof Symbol symbol) {
                Object found = symbolValue(symbol, in);
                return () -> then.give(found);
            }
            need(form != EMPTY, ListMachine.SYNTAX);
            if (!(form instanceof Pair)) {
                return () -> then.give(form);
            }
            List<Object> parts = partsOf(form).get();
            if (parts.get(0) instanceof Symbol word && word.token() >= 40 && word.token() <= 45) {
                return workOutWord(word.token(), parts, in, then);
            }
            return collect(parts, List.of(), in, then);
        };
    }

    private static Object symbolValue(Symbol symbol, Environment in) {
        need(symbol.token() < 40 || symbol.token() > 45, ListMachine.SYNTAX);
        if (symbol.token() >= 50) {
            return new BuiltIn(symbol.token());
        }
        Object found = in.of(symbol.token()).places.get(symbol.token());
        need(found != null, ListMachine.UNBOUND);
        return found;
    }

    private static boolean isName(Object form) {
        return form instanceof Symbol symbol && symbol.token() < 40;
    }

    private Step workOutWord(int word, List<Object> parts, Environment in, Rest then) {
        int size = parts.size();
        if (word == 40) {
            need(size == 2, ListMachine.SYNTAX);
            return () -> then.give(parts.get(1));
        }
        if (word == 41) {
            need(size == 3 || size == 4, ListMachine.SYNTAX);
            return workOut(parts.get(1), in, chosen -> {
                if (!Boolean.FALSE.equals(chosen)) {
                    return workOut(parts.get(2), in, then);
                }
                return size == 4 ? workOut(parts.get(3), in, then) : then.give(NOTHING);
            });
        }
        if (word == 42) {
            need(size >= 3, ListMachine.SYNTAX);
            Procedure made = procedure(parts, in);
            return () -> then.give(made);
        }
        if (word == 45) {
            need(size >= 2, ListMachine.SYNTAX);
            return inOrder(parts, 1, in, then);
        }
        need(size == 3 && isName(parts.get(1)), ListMachine.SYNTAX);
        int name = ((Symbol) parts.get(1)).token();
        return workOut(parts.get(2), in, given -> {
            Environment where = word == 43 ? global : in.of(name);
            need(word == 43 || where.places.containsKey(name), ListMachine.UNBOUND);
            where.places.put(name, given);
            return () -> then.give(NOTHING);
        });
    }

    private static Procedure procedure(List<Object> parts, Environment in) {
        need(parts.get(1) == EMPTY || parts.get(1) instanceof Pair, ListMachine.SYNTAX);
        List<Object> names = partsOf(parts.get(1)).get();
        Set<Object> different = new HashSet<>(names);
        need(names.size() <= 4 && different.size() == names.size(), ListMachine.SYNTAX);
        List<Integer> tokens = new ArrayList<>();
        for (Object name : names) {
            need(isName(name), ListMachine.SYNTAX);
            tokens.add(((Symbol) name).token());
        }
        return new Procedure(tokens, parts.subList(2, parts.size()), in);
    }

    private Step collect(List<Object> parts, List<Object> soFar, Environment in, Rest then) {
        if (soFar.size() == parts.size()) {
            return apply(soFar.get(0), soFar.subList(1, soFar.size()), then);
        }
        return workOut(parts.get(soFar.size()), in, given -> {
            List<Object> more = new ArrayList<>(soFar);
            more.add(given);
            return collect(parts, more, in, then);
        });
    }

    private Step apply(Object what, List<Object> values, Rest then) {
        return () -> {
            count();
            if (what instanceof Procedure procedure) {
                need(procedure.names.size() == values.size(), ListMachine.ARGUMENTS);
                Environment in = new Environment(procedure.kept);
                for (int i = 0; i < values.size(); i++) {
                    in.places.put(procedure.names.get(i), values.get(i));
                }
                return inOrder(procedure.body, 0, in, then);
            }
            if (what instanceof Continuation continuation) {
                need(values.size() == 1, ListMachine.ARGUMENTS);
                entries++;
                return () -> continuation.rest.give(values.get(0));
            }
            need(what instanceof BuiltIn, ListMachine.NO_PROCEDURE);
            int token = ((BuiltIn) what).token();
            boolean isOne = List.of(51, 52, 53, 54, 62, 63).contains(token);
            need(values.size() == (isOne ? 1 : 2), ListMachine.ARGUMENTS);
            return applyBuiltIn(token, values.get(0), isOne ? null : values.get(1), then);
        };
    }

    private Step applyBuiltIn(int token, Object a, Object b, Rest then) {
        if (token == 63) {
            return apply(a, List.of(new Continuation(then)), then);
        }
        if (token == 64) {
            java.util.Optional<List<Object>> values = partsOf(b);
            need(values.isPresent(), ListMachine.TYPE);
            return apply(a, values.get(), then);
        }
        Object result = token == 50 || token == 51 || token == 52 || token >= 60 && token <= 61 ? onPairs(token, a, b)
            : token <= 55 ? (Object) (token == 53 ? a == EMPTY : token == 54 ? a instanceof Pair : isSame(a, b))
            : onNumbers(token, a, b);
        return () -> then.give(result);
    }

    private static boolean isSame(Object a, Object b) {
        boolean isIdentity = a instanceof Pair || a instanceof Procedure || a instanceof Continuation || a == EMPTY || a == NOTHING;
        return isIdentity ? a == b : a.equals(b);
    }

    private Object onPairs(int token, Object a, Object b) {
        if (token == 50) {
            conses++;
            return new Pair(a, b);
        }
        need(a instanceof Pair, ListMachine.TYPE);
        Pair pair = (Pair) a;
        if (token == 51) {
            return pair.first;
        }
        if (token == 52) {
            return pair.rest;
        }
        if (token == 60) {
            pair.first = b;
        } else {
            pair.rest = b;
        }
        return NOTHING;
    }

    private Object onNumbers(int token, Object a, Object b) {
        need(a instanceof Integer, ListMachine.TYPE);
        int x = (Integer) a;
        if (token == 62) {
            need(printed.size() < 20, ListMachine.FULL_UP);
            printed.add(x);
            return x;
        }
        need(b instanceof Integer, ListMachine.TYPE);
        int y = (Integer) b;
        return token == 56 ? (Object) (x + y) : token == 57 ? (Object) (x - y) : token == 58 ? (Object) (x * y) : (Object) (x < y);
    }

    private void put(int kind, int number) {
        if (items.size() == 120) {
            throw new Ended(ListMachine.LONG);
        }
        items.add(new int[] {kind, number});
    }

    private void write(Object v) {
        if (v instanceof Integer number) {
            put(0, number);
        } else if (v instanceof Symbol symbol) {
            put(1, symbol.token());
        } else if (v instanceof Boolean truth) {
            put(5, truth ? 1 : 0);
        } else if (v == NOTHING) {
            put(7, 0);
        } else if (v == EMPTY || v instanceof Pair) {
            writeList(v);
        } else {
            put(6, 0);
        }
    }

    private void writeList(Object list) {
        put(2, 0);
        Object rest = list;
        while (rest instanceof Pair) {
            write(((Pair) rest).first);
            rest = ((Pair) rest).rest;
        }
        if (rest != EMPTY) {
            put(4, 0);
            write(rest);
        }
        put(3, 0);
    }
}
