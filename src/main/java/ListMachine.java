/**
 * A machine for a small language of lists, procedures and continuations.
 *
 * The object holds nothing but the text. Every question about the run reads the text and runs it
 * anew, so that an answer can never belong to an older text.
 *
 * A run is a loop over three states (a form is to be worked out, something is to be applied, a
 * value is given). What is left to do stands in frames that are never changed once they are made:
 * that is why a continuation, which is nothing but a frame, can be entered again and again.
 */
public final class ListMachine {
    public static final int BAD_ARG = -1000000001;
    public static final int FULL = -1000000002;
    public static final int NONE = -1000000003;
    public static final int LONG = -1000000004;
    public static final int DONE = 0;
    public static final int UNREADABLE = 1;
    public static final int TIRED = 2;
    public static final int UNBOUND = 3;
    public static final int SYNTAX = 4;
    public static final int NO_PROCEDURE = 5;
    public static final int ARGUMENTS = 6;
    public static final int TYPE = 7;
    public static final int FULL_UP = 8;

    private static final int MOST_TOKENS = 70;
    private static final int MOST_COUNTED = 600;
    private static final int MOST_PRINTED = 20;
    private static final int MOST_ITEMS = 120;
    private static final int MOST_NAMES = 4;

    // No run can use these lengths up, as all that it makes goes along with something counted.
    // A token is read into two pairs at most, a cons makes one, and a value kept for an
    // application one: 140 + 600 + 601. A frame is made just before a form is worked out: 601.
    // An application makes four places at most, beside the ten global ones: 2410.
    private static final int MOST_PAIRS = 1400;
    private static final int MOST_FRAMES = 700;
    private static final int MOST_PLACES = 2500;
    private static final int MOST_PROCEDURES = 700;
    private static final int MOST_CONTINUATIONS = 700;

    // Values given to waiting defines and sets are all that is not counted: at most 601 frames
    // for each of the 600 that are counted, and so far less than this.
    private static final int MOST_STEPS = 1000000;

    // Each open "(" is an item or a token, so that no more can be open at once.
    private static final int MOST_OPEN = 128;

    // Two turns of the writing loop put down one item at least.
    private static final int MOST_WRITING_TURNS = 300;

    private static final int ABSENT = -1;

    private static final int OPEN_TOKEN = 0;
    private static final int CLOSE_TOKEN = 1;
    private static final int QUOTE_MARK = 2;
    private static final int TRUE_TOKEN = 3;
    private static final int FALSE_TOKEN = 4;
    private static final int FIRST_NUMBER = 10;
    private static final int FIRST_NAME = 30;
    private static final int LAST_NAME = 39;

    private static final int WORD_QUOTE = 40;
    private static final int WORD_IF = 41;
    private static final int WORD_LAMBDA = 42;
    private static final int WORD_DEFINE = 43;
    private static final int WORD_SET = 44;
    private static final int WORD_BEGIN = 45;

    private static final int CONS = 50;
    private static final int CAR = 51;
    private static final int CDR = 52;
    private static final int ISNULL = 53;
    private static final int ISPAIR = 54;
    private static final int SAME = 55;
    private static final int ADD = 56;
    private static final int SUB = 57;
    private static final int MUL = 58;
    private static final int LESS = 59;
    private static final int SETCAR = 60;
    private static final int SETCDR = 61;
    private static final int PRINT = 62;
    private static final int CALLCC = 63;
    private static final int APPLY = 64;

    // A value is a tag above 32 bits of a number, a token, or an index, so that two values are
    // the same just if they are equal.
    private static final int TAG_NUMBER = 0;
    private static final int TAG_SYMBOL = 1;
    private static final int TAG_PAIR = 2;
    private static final int TAG_EMPTY = 3;
    private static final int TAG_TRUTH = 4;
    private static final int TAG_PROCEDURE = 5;
    private static final int TAG_BUILT_IN = 6;
    private static final int TAG_CONTINUATION = 7;
    private static final int TAG_NOTHING = 8;

    private static final long LOW_BITS = 0xFFFFFFFFL;
    private static final long EMPTY = (long) TAG_EMPTY << 32;
    private static final long FALSE_VALUE = (long) TAG_TRUTH << 32;
    private static final long TRUE_VALUE = FALSE_VALUE + 1;
    private static final long NOTHING = (long) TAG_NOTHING << 32;
    private static final long FIRST_NAME_SYMBOL = ((long) TAG_SYMBOL << 32) + FIRST_NAME;
    private static final long LAST_NAME_SYMBOL = ((long) TAG_SYMBOL << 32) + LAST_NAME;
    private static final long FIRST_WORD_SYMBOL = ((long) TAG_SYMBOL << 32) + WORD_QUOTE;
    private static final long LAST_WORD_SYMBOL = ((long) TAG_SYMBOL << 32) + WORD_BEGIN;
    private static final long NO_VALUE = -1L;

    private static final int ITEM_NUMBER = 0;
    private static final int ITEM_SYMBOL = 1;
    private static final int ITEM_OPEN = 2;
    private static final int ITEM_CLOSE = 3;
    private static final int ITEM_DOT = 4;
    private static final int ITEM_TRUTH = 5;
    private static final int ITEM_PROCEDURE = 6;
    private static final int ITEM_NOTHING = 7;

    private static final int GOING = -1;

    private static final int AT_FORM = 0;
    private static final int AT_APPLICATION = 1;
    private static final int AT_VALUE = 2;

    // What a frame does with the value that it is given.
    private static final int THEN_FORMS = 0;
    private static final int THEN_CHOOSE = 1;
    private static final int THEN_DEFINE = 2;
    private static final int THEN_SET = 3;
    private static final int THEN_COLLECT = 4;

    private static final int NO_FRAME = -1;

    // The global places are the places 0 to 9, and an environment is its innermost place; any of
    // the global ones stands for the global environment.
    private static final int GLOBAL_PLACES = 10;
    private static final int GLOBAL = 0;

    private final int[] text = new int[MOST_TOKENS];
    private int textLength = 0;

    private final long[] firsts = new long[MOST_PAIRS];
    private final long[] rests = new long[MOST_PAIRS];
    private int pairCount = 0;

    private final int[] placeNames = new int[MOST_PLACES];
    private final long[] placeValues = new long[MOST_PLACES];
    private final int[] placeOuters = new int[MOST_PLACES];
    private int placeCount = GLOBAL_PLACES;

    private final long[] procedureParts = new long[MOST_PROCEDURES];
    private final int[] procedurePlaces = new int[MOST_PROCEDURES];
    private int procedureCount = 0;

    private final int[] continuationFrames = new int[MOST_CONTINUATIONS];
    private int continuationCount = 0;

    private final int[] frameTasks = new int[MOST_FRAMES];
    private final long[] frameForms = new long[MOST_FRAMES];
    private final long[] frameValues = new long[MOST_FRAMES];
    private final int[] framePlaces = new int[MOST_FRAMES];
    private final int[] frameNexts = new int[MOST_FRAMES];
    private int frameCount = 0;

    // A step that only says what comes next (another form, another application) leaves the state.
    private int state = AT_FORM;
    private int ending = DONE;
    private long form = EMPTY;
    private int environment = GLOBAL;
    private int frame = NO_FRAME;
    private long value = NOTHING;
    private long applied = NOTHING;
    private final long[] arguments = new long[MOST_PAIRS];
    private int argumentCount = 0;

    private int countedCount = 0;
    private int consCount = 0;
    private int entryCount = 0;
    private final int[] outputs = new int[MOST_PRINTED];
    private int outputCount = 0;

    private final int[] itemKinds = new int[MOST_ITEMS];
    private final int[] itemNumbers = new int[MOST_ITEMS];
    private int itemCount = 0;

    // The lists that stay open while one inside them is read or written.
    private final long[] openLists = new long[MOST_OPEN];

    public ListMachine() {
        textLength = 0;
    }

    public int tokens(int a, int b, int c, int d) {
        if (!isTokenOrAbsent(a) || !isTokenOrAbsent(b) || !isTokenOrAbsent(c) || !isTokenOrAbsent(d)) {
            return BAD_ARG;
        }
        int more = (a == ABSENT ? 0 : 1) + (b == ABSENT ? 0 : 1) + (c == ABSENT ? 0 : 1) + (d == ABSENT ? 0 : 1);
        if (textLength + more > MOST_TOKENS) {
            return FULL;
        }
        append(a);
        append(b);
        append(c);
        append(d);
        return textLength;
    }

    public int untoken() {
        if (textLength == 0) {
            return NONE;
        }
        textLength--;
        return text[textLength];
    }

    public void clear() {
        textLength = 0;
    }

    public boolean reads() {
        return countForms() != NONE;
    }

    public int forms() {
        return countForms();
    }

    public int run() {
        perform();
        return ending;
    }

    public int items() {
        perform();
        return itemCount;
    }

    public int kind(int i) {
        perform();
        // Where itemCount is NONE or LONG, it is below 0 and lets no i pass.
        return i >= 0 && i < itemCount ? itemKinds[i] : NONE;
    }

    public int number(int i) {
        perform();
        return i >= 0 && i < itemCount ? itemNumbers[i] : 0;
    }

    public int printed() {
        perform();
        return outputCount;
    }

    public int output(int k) {
        perform();
        return k >= 0 && k < outputCount ? outputs[k] : 0;
    }

    public int counted() {
        perform();
        return countedCount;
    }

    public int conses() {
        perform();
        return consCount;
    }

    public int entries() {
        perform();
        return entryCount;
    }

    // ---- the text ----

    private static boolean isTokenOrAbsent(int token) {
        return token >= ABSENT && token <= FALSE_TOKEN
            || token >= FIRST_NUMBER && token <= WORD_BEGIN
            || token >= CONS && token <= APPLY;
    }

    private void append(int token) {
        if (token != ABSENT && textLength < MOST_TOKENS) {
            text[textLength] = token;
            textLength++;
        }
    }

    private int countForms() {
        int depth = 0;
        int whole = 0;
        boolean marked = false;
        for (int i = 0; i < textLength; i++) {
            int token = text[i];
            if (token == CLOSE_TOKEN) {
                if (marked || depth == 0) {
                    return NONE;
                }
                depth--;
            } else if (token == OPEN_TOKEN) {
                depth++;
            }
            marked = token == QUOTE_MARK;
            if (depth == 0 && !marked) {
                whole++;
            }
        }
        return depth == 0 && !marked ? whole : NONE;
    }

    /**
     * The list of the forms of a text that can be read. It goes from the right to the left: each
     * list then grows at its front, and a quote mark finds its form made already.
     */
    private long readForms() {
        long list = EMPTY;
        int depth = 0;
        for (int i = textLength - 1; i >= 0; i--) {
            int token = text[i];
            if (token == CLOSE_TOKEN) {
                openLists[depth] = list;
                depth++;
                list = EMPTY;
            } else if (token == OPEN_TOKEN) {
                depth--;
                list = newPair(list, openLists[depth]);
            } else if (token == QUOTE_MARK) {
                long quoted = newPair(firsts[(int) list], EMPTY);
                firsts[(int) list] = newPair(FIRST_WORD_SYMBOL, quoted);
            } else {
                long single = formOf(token);
                list = newPair(single, list);
            }
        }
        return list;
    }

    private static long formOf(int token) {
        if (token == TRUE_TOKEN) {
            return TRUE_VALUE;
        }
        if (token == FALSE_TOKEN) {
            return FALSE_VALUE;
        }
        if (token < FIRST_NAME) {
            return tagged(TAG_NUMBER, token - FIRST_NUMBER);
        }
        return tagged(TAG_SYMBOL, token);
    }

    // ---- values, pairs and places ----

    private static long tagged(int tag, int low) {
        return ((long) tag << 32) | (low & LOW_BITS);
    }

    private static int tagOf(long v) {
        return (int) (v >> 32);
    }

    private long newPair(long first, long rest) {
        if (pairCount >= MOST_PAIRS) {
            ending = TIRED;
            return EMPTY;
        }
        int at = pairCount;
        pairCount++;
        firsts[at] = first;
        rests[at] = rest;
        return tagged(TAG_PAIR, at);
    }

    /** NONE if it does not end with the empty list: one that passes more pairs than there are is a ring. */
    private int lengthOf(long list) {
        long rest = list;
        for (int n = 0; n <= pairCount; n++) {
            if (rest == EMPTY) {
                return n;
            }
            if (rest >> 32 != TAG_PAIR) {
                return NONE;
            }
            rest = rests[(int) rest];
        }
        return NONE;
    }

    private int newPlace(int name, long first, int outer) {
        if (placeCount >= MOST_PLACES) {
            ending = TIRED;
            return outer;
        }
        int at = placeCount;
        placeCount++;
        placeNames[at] = name;
        placeValues[at] = first;
        placeOuters[at] = outer;
        return at;
    }

    private int innermostPlace(int name) {
        int place = environment;
        for (int i = 0; i < MOST_PLACES && place >= GLOBAL_PLACES; i++) {
            if (placeNames[place] == name) {
                return place;
            }
            place = placeOuters[place];
        }
        return name - FIRST_NAME;
    }

    // ---- the run ----

    private void perform() {
        forget();
        if (countForms() == NONE) {
            ending = UNREADABLE;
            return;
        }
        long all = readForms();
        if (all == EMPTY) {
            give(NOTHING);
        } else {
            workOutAll(all);
        }
        for (int i = 0; i < MOST_STEPS && ending == GOING; i++) {
            if (state == AT_FORM) {
                workOut();
            } else if (state == AT_APPLICATION) {
                applyNow();
            } else {
                goOn();
            }
        }
        if (ending == DONE) {
            write();
        }
    }

    private void forget() {
        pairCount = 0;
        for (int i = 0; i < GLOBAL_PLACES; i++) {
            placeValues[i] = NO_VALUE;
        }
        placeCount = GLOBAL_PLACES;
        procedureCount = 0;
        continuationCount = 0;
        frameCount = 0;
        ending = GOING;
        environment = GLOBAL;
        frame = NO_FRAME;
        countedCount = 0;
        consCount = 0;
        entryCount = 0;
        outputCount = 0;
        itemCount = NONE;
    }

    private boolean countOne() {
        if (countedCount >= MOST_COUNTED) {
            ending = TIRED;
            return false;
        }
        countedCount++;
        return true;
    }

    private void give(long given) {
        value = given;
        state = AT_VALUE;
    }

    private void giveTruth(boolean truth) {
        value = truth ? TRUE_VALUE : FALSE_VALUE;
        state = AT_VALUE;
    }

    private void giveNumber(int number) {
        value = ((long) TAG_NUMBER << 32) | (number & LOW_BITS);
        state = AT_VALUE;
    }

    private void pushFrame(int task, long formsLeft, long valuesSoFar) {
        if (frameCount >= MOST_FRAMES) {
            ending = TIRED;
            return;
        }
        int at = frameCount;
        frameCount++;
        frameTasks[at] = task;
        frameForms[at] = formsLeft;
        frameValues[at] = valuesSoFar;
        framePlaces[at] = environment;
        frameNexts[at] = frame;
        frame = at;
    }

    // ---- a form is to be worked out ----

    private void workOut() {
        if (!countOne()) {
            return;
        }
        int tag = tagOf(form);
        if (tag == TAG_SYMBOL) {
            workOutSymbol((int) form);
        } else if (tag == TAG_EMPTY) {
            ending = SYNTAX;
        } else if (tag != TAG_PAIR) {
            give(form);
        } else if (firsts[(int) form] >= FIRST_WORD_SYMBOL && firsts[(int) form] <= LAST_WORD_SYMBOL) {
            workOutWord((int) firsts[(int) form], rests[(int) form]);
        } else {
            pushFrame(THEN_COLLECT, rests[(int) form], EMPTY);
            form = firsts[(int) form];
        }
    }

    private void workOutSymbol(int token) {
        if (token >= CONS) {
            long procedure = tagged(TAG_BUILT_IN, token);
            give(procedure);
        } else if (token > LAST_NAME) {
            ending = SYNTAX;
        } else {
            int place = innermostPlace(token);
            give(placeValues[place]);
            ending = value == NO_VALUE ? UNBOUND : GOING;
        }
    }

    private boolean hasShape(int word, long parts) {
        int count = lengthOf(parts);
        switch (word) {
            case WORD_QUOTE:
                return count == 1;
            case WORD_IF:
                return count == 2 || count == 3;
            case WORD_LAMBDA:
                return count >= 2 && areNames(firsts[(int) parts]);
            case WORD_DEFINE:
            case WORD_SET:
                return count == 2 && firsts[(int) parts] >= FIRST_NAME_SYMBOL
                    && firsts[(int) parts] <= LAST_NAME_SYMBOL;
            default:
                return count >= 1;
        }
    }

    private boolean areNames(long list) {
        long rest = list;
        int seen = 0;
        for (int i = 0; i < MOST_NAMES && rest >> 32 == TAG_PAIR; i++) {
            long name = firsts[(int) rest];
            if (name < FIRST_NAME_SYMBOL || name > LAST_NAME_SYMBOL) {
                return false;
            }
            int bit = 1 << (int) (name - FIRST_NAME_SYMBOL);
            if ((seen & bit) != 0) {
                return false;
            }
            seen |= bit;
            rest = rests[(int) rest];
        }
        return rest == EMPTY;
    }

    private void workOutWord(int word, long parts) {
        if (!hasShape(word, parts)) {
            ending = SYNTAX;
            return;
        }
        long first = firsts[(int) parts];
        long others = rests[(int) parts];
        switch (word) {
            case WORD_QUOTE:
                give(first);
                break;
            case WORD_IF:
                pushFrame(THEN_CHOOSE, others, EMPTY);
                form = first;
                break;
            case WORD_LAMBDA:
                makeProcedure(parts);
                break;
            case WORD_DEFINE:
                pushFrame(THEN_DEFINE, first, EMPTY);
                form = firsts[(int) others];
                break;
            case WORD_SET:
                pushFrame(THEN_SET, first, EMPTY);
                form = firsts[(int) others];
                break;
            default:
                workOutAll(parts);
                break;
        }
    }

    private void makeProcedure(long parts) {
        if (procedureCount >= MOST_PROCEDURES) {
            ending = TIRED;
            return;
        }
        procedureParts[procedureCount] = parts;
        procedurePlaces[procedureCount] = environment;
        long procedure = tagged(TAG_PROCEDURE, procedureCount);
        procedureCount++;
        give(procedure);
    }

    private void workOutAll(long list) {
        long others = rests[(int) list];
        if (others != EMPTY) {
            pushFrame(THEN_FORMS, others, EMPTY);
        }
        form = firsts[(int) list];
        state = AT_FORM;
    }

    // ---- a value is given ----

    private void goOn() {
        if (frame == NO_FRAME) {
            ending = DONE;
            return;
        }
        int left = frame;
        long formsLeft = frameForms[left];
        environment = framePlaces[left];
        frame = frameNexts[left];
        switch (frameTasks[left]) {
            case THEN_FORMS:
                workOutAll(formsLeft);
                break;
            case THEN_CHOOSE:
                choose(formsLeft);
                break;
            case THEN_DEFINE:
                placeValues[(int) formsLeft - FIRST_NAME] = value;
                give(NOTHING);
                break;
            case THEN_SET:
                set((int) formsLeft);
                break;
            default:
                collect(formsLeft, frameValues[left]);
                break;
        }
    }

    private void choose(long branches) {
        long others = rests[(int) branches];
        if (value != FALSE_VALUE) {
            form = firsts[(int) branches];
            state = AT_FORM;
        } else if (others != EMPTY) {
            form = firsts[(int) others];
            state = AT_FORM;
        } else {
            give(NOTHING);
        }
    }

    private void set(int name) {
        int place = innermostPlace(name);
        if (placeValues[place] == NO_VALUE) {
            ending = UNBOUND;
            return;
        }
        placeValues[place] = value;
        give(NOTHING);
    }

    /** The values so far are a list in backward order: a frame that is entered again still has its own. */
    private void collect(long formsLeft, long valuesSoFar) {
        long values = newPair(value, valuesSoFar);
        if (formsLeft == EMPTY) {
            startApplication(values);
            return;
        }
        pushFrame(THEN_COLLECT, rests[(int) formsLeft], values);
        form = firsts[(int) formsLeft];
        state = AT_FORM;
    }

    private void startApplication(long backward) {
        long rest = backward;
        argumentCount = lengthOf(backward) - 1;
        for (int i = argumentCount - 1; i >= 0; i--) {
            arguments[i] = firsts[(int) rest];
            rest = rests[(int) rest];
        }
        applied = firsts[(int) rest];
        state = AT_APPLICATION;
    }

    // ---- something is to be applied ----

    private void applyNow() {
        if (!countOne()) {
            return;
        }
        switch (tagOf(applied)) {
            case TAG_PROCEDURE:
                enterProcedure((int) applied);
                break;
            case TAG_BUILT_IN:
                applyBuiltIn((int) applied);
                break;
            case TAG_CONTINUATION:
                enterContinuation((int) applied);
                break;
            default:
                ending = NO_PROCEDURE;
                break;
        }
    }

    private void enterProcedure(int procedure) {
        long parts = procedureParts[procedure];
        long names = firsts[(int) parts];
        if (lengthOf(names) != argumentCount) {
            ending = ARGUMENTS;
            return;
        }
        environment = procedurePlaces[procedure];
        for (int i = 0; i < argumentCount; i++) {
            environment = newPlace((int) firsts[(int) names], arguments[i], environment);
            names = rests[(int) names];
        }
        workOutAll(rests[(int) parts]);
    }

    private void enterContinuation(int continuation) {
        if (argumentCount != 1) {
            ending = ARGUMENTS;
            return;
        }
        entryCount++;
        frame = continuationFrames[continuation];
        give(arguments[0]);
    }

    private void applyBuiltIn(int token) {
        boolean takesOne = token >= CAR && token <= ISPAIR || token == PRINT || token == CALLCC;
        if (argumentCount != (takesOne ? 1 : 2)) {
            ending = ARGUMENTS;
            return;
        }
        switch (token) {
            case CONS:
                consCount++;
                long pair = newPair(arguments[0], arguments[1]);
                give(pair);
                break;
            case CAR:
            case CDR:
            case SETCAR:
            case SETCDR:
                usePair(token);
                break;
            case ISNULL:
                giveTruth(arguments[0] == EMPTY);
                break;
            case ISPAIR:
                giveTruth(arguments[0] >> 32 == TAG_PAIR);
                break;
            case SAME:
                giveTruth(arguments[0] == arguments[1]);
                break;
            case PRINT:
                printNumber();
                break;
            case CALLCC:
                applyToContinuation();
                break;
            case ADD:
            case SUB:
            case MUL:
            case LESS:
                calculate(token);
                break;
            default:
                applyToList(arguments[0], arguments[1]);
                break;
        }
    }

    private void usePair(int token) {
        if (arguments[0] >> 32 != TAG_PAIR) {
            ending = TYPE;
            return;
        }
        int pair = (int) arguments[0];
        if (token == CAR) {
            give(firsts[pair]);
        } else if (token == CDR) {
            give(rests[pair]);
        } else if (token == SETCAR) {
            firsts[pair] = arguments[1];
            give(NOTHING);
        } else {
            rests[pair] = arguments[1];
            give(NOTHING);
        }
    }

    private void calculate(int token) {
        if (arguments[0] >> 32 != TAG_NUMBER || arguments[1] >> 32 != TAG_NUMBER) {
            ending = TYPE;
            return;
        }
        int a = (int) arguments[0];
        int b = (int) arguments[1];
        switch (token) {
            case ADD:
                giveNumber(a + b);
                break;
            case SUB:
                giveNumber(a - b);
                break;
            case MUL:
                giveNumber(a * b);
                break;
            default:
                giveTruth(a < b);
                break;
        }
    }

    private void printNumber() {
        if (arguments[0] >> 32 != TAG_NUMBER) {
            ending = TYPE;
            return;
        }
        if (outputCount >= MOST_PRINTED) {
            ending = FULL_UP;
            return;
        }
        outputs[outputCount] = (int) arguments[0];
        outputCount++;
        give(arguments[0]);
    }

    private void applyToContinuation() {
        if (continuationCount >= MOST_CONTINUATIONS) {
            ending = TIRED;
            return;
        }
        continuationFrames[continuationCount] = frame;
        applied = arguments[0];
        arguments[0] = tagged(TAG_CONTINUATION, continuationCount);
        continuationCount++;
    }

    private void applyToList(long procedure, long list) {
        int length = lengthOf(list);
        if (length == NONE) {
            ending = TYPE;
            return;
        }
        long rest = list;
        for (int i = 0; i < length; i++) {
            arguments[i] = firsts[(int) rest];
            rest = rests[(int) rest];
        }
        argumentCount = length;
        applied = procedure;
    }

    // ---- the value is written ----

    private void write() {
        itemCount = 0;
        long next = value;
        boolean isNextWaiting = true;
        int depth = 0;
        for (int i = 0; i < MOST_WRITING_TURNS && itemCount <= MOST_ITEMS && (isNextWaiting || depth > 0); i++) {
            if (isNextWaiting && next >> 32 == TAG_PAIR) {
                putItem(ITEM_OPEN, 0);
                openLists[depth] = rests[(int) next];
                depth++;
                next = firsts[(int) next];
            } else if (isNextWaiting) {
                putSingle(next);
                isNextWaiting = false;
            } else {
                long rest = openLists[depth - 1];
                if (rest >> 32 == TAG_PAIR) {
                    next = firsts[(int) rest];
                    isNextWaiting = true;
                    openLists[depth - 1] = rests[(int) rest];
                } else {
                    putEnd(rest);
                    depth--;
                }
            }
        }
        if (itemCount > MOST_ITEMS) {
            itemCount = LONG;
        }
    }

    private void putEnd(long rest) {
        if (rest != EMPTY) {
            putItem(ITEM_DOT, 0);
            putSingle(rest);
        }
        putItem(ITEM_CLOSE, 0);
    }

    private void putSingle(long single) {
        switch (tagOf(single)) {
            case TAG_NUMBER:
                putItem(ITEM_NUMBER, (int) single);
                break;
            case TAG_SYMBOL:
                putItem(ITEM_SYMBOL, (int) single);
                break;
            case TAG_EMPTY:
                putItem(ITEM_OPEN, 0);
                putItem(ITEM_CLOSE, 0);
                break;
            case TAG_TRUTH:
                putItem(ITEM_TRUTH, (int) single);
                break;
            case TAG_NOTHING:
                putItem(ITEM_NOTHING, 0);
                break;
            default:
                putItem(ITEM_PROCEDURE, 0);
                break;
        }
    }

    private void putItem(int itemKind, int itemNumber) {
        if (itemCount < MOST_ITEMS) {
            itemKinds[itemCount] = itemKind;
            itemNumbers[itemCount] = itemNumber;
        }
        itemCount++;
    }
}
