/**
 * An interpreter for a small Lisp in which environments are values and operatives receive their
 * operands unevaluated, together with the environment of the call.
 *
 * <p>A value is one long (see Word), so that two values are the same exactly if their longs are
 * equal, and so that no call has to make a Java object: all arrays are made by the constructor.
 */
public final class ScopeInterpreter {
    public static final int BAD_VALUE = -1;
    public static final int TOO_FEW = -2;
    public static final int STACK_FULL = -3;
    public static final int WRONG_KIND = -4;
    public static final int HEAP_FULL = -5;
    public static final int UNBOUND = -6;
    public static final int NOT_COMBINER = -7;
    public static final int BAD_OPERANDS = -8;
    public static final int OVERFLOW = -9;
    public static final int STEP_LIMIT = -10;
    public static final int DEPTH_LIMIT = -11;
    public static final int NONE = -12;
    public static final long NO_VALUE = Long.MIN_VALUE;

    private static final int STACK_ROOM = 40;
    private static final int FIRST_LIMIT = 1000;
    private static final int GREATEST_LIMIT = 1500;
    private static final int NO_ERROR = 0;

    private final Heap heap;
    private final Machine machine;
    private final long[] stack;
    private int stackSize;
    private int present;
    private int limit;

    public ScopeInterpreter() {
        heap = new Heap();
        machine = new Machine(heap);
        stack = new long[STACK_ROOM];
        stackSize = 0;
        present = Heap.USER;
        limit = FIRST_LIMIT;
    }

    // ---- pushing values

    public int pushInteger(long value) {
        if (!Word.isInteger(value)) {
            return BAD_VALUE;
        }
        return push(Word.make(Word.INTEGER, value));
    }

    public int pushBoolean(boolean value) {
        return push(Word.makeBoolean(value));
    }

    public int pushSymbol(int symbol) {
        if (!Word.isSymbol(symbol)) {
            return BAD_VALUE;
        }
        return push(Word.make(Word.SYMBOL, symbol));
    }

    public int pushEmpty(boolean isInert) {
        return push(isInert ? Word.INERT : Word.NIL);
    }

    public int pushEnvironment() {
        return push(Word.make(Word.ENVIRONMENT, present));
    }

    public int pushCopy(int depth) {
        int error = depthError(depth);
        if (error != NO_ERROR) {
            return error;
        }
        return push(valueAt(depth));
    }

    public int pushPart(int depth, int part) {
        if (part != 0 && part != 1) {
            return BAD_VALUE;
        }
        int error = depthError(depth);
        if (error != NO_ERROR) {
            return error;
        }
        long whole = valueAt(depth);
        int wholeKind = Word.kindOf(whole);
        if (wholeKind == Word.PAIR) {
            return push(part == 0 ? heap.carOf(whole) : heap.cdrOf(whole));
        }
        if (part == 0 && wholeKind == Word.APPLICATIVE) {
            return push(heap.underlyingOf(whole));
        }
        if (part == 0 && wholeKind == Word.ENVIRONMENT) {
            return pushParent(Word.rowOf(whole));
        }
        return WRONG_KIND;
    }

    public int pushBinding(int depth, int symbol) {
        if (!Word.isSymbol(symbol)) {
            return BAD_VALUE;
        }
        int error = kindError(depth, Word.ENVIRONMENT);
        if (error != NO_ERROR) {
            return error;
        }
        int binding = heap.visibleBinding(Word.rowOf(valueAt(depth)), symbol);
        if (binding == Heap.NO_ROW) {
            return UNBOUND;
        }
        return push(heap.boundValueOf(binding));
    }

    // ---- building and removing

    public int makePair() {
        if (stackSize < 2) {
            return TOO_FEW;
        }
        int row = heap.addPair(valueAt(1), valueAt(0));
        if (row == Heap.NO_ROW) {
            return HEAP_FULL;
        }
        stackSize -= 2;
        return push(Word.make(Word.PAIR, row));
    }

    public int makeList(int n) {
        int error = countError(n);
        if (error != NO_ERROR) {
            return error;
        }
        if (!heap.hasRoomFor(n)) {
            return HEAP_FULL;
        }
        long list = Word.NIL;
        for (int taken = 0; taken < n; taken++) {
            list = Word.make(Word.PAIR, heap.addPair(valueAt(taken), list));
        }
        stackSize -= n;
        return push(list);
    }

    public int drop(int n) {
        int error = countError(n);
        if (error != NO_ERROR) {
            return error;
        }
        stackSize -= n;
        return stackSize;
    }

    public int reset() {
        int objects = heap.objectCount();
        heap.restoreGround();
        machine.forget();
        stackSize = 0;
        present = Heap.USER;
        limit = FIRST_LIMIT;
        return objects;
    }

    // ---- reading

    public int size() {
        return stackSize;
    }

    public int kind(int depth) {
        int error = depthError(depth);
        return error != NO_ERROR ? error : Word.kindOf(valueAt(depth));
    }

    public long value(int depth) {
        if (depthError(depth) != NO_ERROR) {
            return NO_VALUE;
        }
        long word = valueAt(depth);
        int wordKind = Word.kindOf(word);
        boolean hasNumber = wordKind == Word.INTEGER || wordKind == Word.BOOLEAN || wordKind == Word.SYMBOL;
        return hasNumber ? Word.contentOf(word) : NO_VALUE;
    }

    public int areSame(int depth, int other) {
        if (depth < 0 || other < 0) {
            return BAD_VALUE;
        }
        if (depth >= stackSize || other >= stackSize) {
            return TOO_FEW;
        }
        return valueAt(depth) == valueAt(other) ? 1 : 0;
    }

    public int length(int depth) {
        int error = depthError(depth);
        if (error != NO_ERROR) {
            return error;
        }
        int elements = heap.lengthOf(valueAt(depth));
        return elements == Heap.NOT_A_LIST ? WRONG_KIND : elements;
    }

    public int bindingCount(int depth) {
        int error = kindError(depth, Word.ENVIRONMENT);
        return error != NO_ERROR ? error : heap.countBindings(Word.rowOf(valueAt(depth)));
    }

    // ---- evaluation

    public int evaluate() {
        if (stackSize < 1) {
            return TOO_FEW;
        }
        long expression = valueAt(0);
        stackSize--;
        int answer = machine.run(expression, present, limit);
        if (answer > 0) {
            push(machine.answer());
        }
        return answer;
    }

    public int useEnvironment() {
        int error = kindError(0, Word.ENVIRONMENT);
        if (error != NO_ERROR) {
            return error;
        }
        present = Word.rowOf(valueAt(0));
        stackSize--;
        return stackSize;
    }

    public int useUser() {
        boolean isChange = present != Heap.USER;
        present = Heap.USER;
        return isChange ? 1 : 0;
    }

    public int setLimit(int steps) {
        if (steps < 1 || steps > GREATEST_LIMIT) {
            return BAD_VALUE;
        }
        int previous = limit;
        limit = steps;
        return previous;
    }

    public int latest(int what) {
        if (what != 0 && what != 1) {
            return BAD_VALUE;
        }
        return what == 0 ? machine.stepCount() : machine.mostFrames();
    }

    public int heapSize() {
        return heap.objectCount();
    }

    // ---- the value stack

    private int push(long word) {
        if (stackSize < 0 || stackSize >= STACK_ROOM) {
            return STACK_FULL;
        }
        stack[stackSize] = word;
        stackSize++;
        return stackSize;
    }

    /** STACK_FULL goes before NONE, because NONE is not an error. */
    private int pushParent(int environment) {
        if (stackSize >= STACK_ROOM) {
            return STACK_FULL;
        }
        int parent = heap.parentOf(environment);
        return parent == Heap.NO_ROW ? NONE : push(Word.make(Word.ENVIRONMENT, parent));
    }

    private long valueAt(int depth) {
        int index = stackSize - 1 - depth;
        return index >= 0 && index < STACK_ROOM ? stack[index] : Word.NIL;
    }

    private int depthError(int depth) {
        if (depth < 0) {
            return BAD_VALUE;
        }
        return depth >= stackSize ? TOO_FEW : NO_ERROR;
    }

    private int kindError(int depth, int due) {
        int error = depthError(depth);
        if (error != NO_ERROR) {
            return error;
        }
        return Word.kindOf(valueAt(depth)) == due ? NO_ERROR : WRONG_KIND;
    }

    private int countError(int n) {
        if (n < 0 || n > STACK_ROOM) {
            return BAD_VALUE;
        }
        return n > stackSize ? TOO_FEW : NO_ERROR;
    }

    /**
     * A value as one long: its kind in the four lowest bits, above them its content, which is the
     * integer, 0 or 1 for a boolean, the symbol's number, or the row of the object in the heap.
     */
    private static final class Word {
        static final int INTEGER = 0;
        static final int BOOLEAN = 1;
        static final int SYMBOL = 2;
        static final int EMPTY_LIST = 3;
        static final int PAIR = 4;
        static final int OPERATIVE = 5;
        static final int APPLICATIVE = 6;
        static final int ENVIRONMENT = 7;
        static final int UNUSED = 8;

        static final long NIL = EMPTY_LIST;
        static final long INERT = UNUSED;

        static final int SYMBOLS = 100;
        private static final long GREATEST = 1000000000000000L;
        private static final int KIND_BITS = 4;
        private static final int KIND_MASK = 15;

        static long make(int kind, long content) {
            return (content << KIND_BITS) | kind;
        }

        static long makeBoolean(boolean truth) {
            return make(BOOLEAN, truth ? 1 : 0);
        }

        static int kindOf(long word) {
            return (int) (word & KIND_MASK);
        }

        static long contentOf(long word) {
            return word >> KIND_BITS;
        }

        /** The row of an object, or the number of a symbol. */
        static int rowOf(long word) {
            return (int) (word >> KIND_BITS);
        }

        static boolean isCombiner(long word) {
            return kindOf(word) == OPERATIVE || kindOf(word) == APPLICATIVE;
        }

        static boolean isInteger(long number) {
            return number >= -GREATEST && number <= GREATEST;
        }

        static boolean isSymbol(int number) {
            return number >= 0 && number < SYMBOLS;
        }

        /** The product of two integers, or NO_VALUE if it is no integer of the language. */
        static long product(long left, long right) {
            if (left != 0 && Math.abs(right) > GREATEST / Math.abs(left)) {
                return NO_VALUE;
            }
            return left * right;
        }
    }

    /**
     * All objects, one row each, of two longs:
     *
     * <pre>
     * pair         car               cdr
     * operative    body              parameters, environment parameter and scope, packed
     * applicative  underlying value  -
     * environment  row of parent     row of the latest binding
     * binding      value             symbol and row of the next binding, packed
     * </pre>
     *
     * A primitive operative needs no row: its content is its number, below FIRST_FREE.
     */
    private static final class Heap {
        static final int ROOM = 4000;
        static final int FIRST_FREE = 100;
        static final int ROWS = FIRST_FREE + ROOM;
        static final int NO_ROW = -1;
        static final int NOT_A_LIST = -1;
        static final int NO_SYMBOL = 127;
        static final int GROUND = 0;
        static final int USER = 1;

        private static final int FIRST_APPLICATIVE = 10;
        private static final int LAST_OPERATIVE = 7;
        private static final int LAST_APPLICATIVE = 25;
        /** The binding of a ground symbol is in the row this far above the symbol's number. */
        private static final int GROUND_BINDINGS = 50;
        private static final int SYMBOL_BITS = 7;
        private static final int SYMBOL_MASK = 127;
        private static final int ROW_BITS = 13;
        private static final int ROW_MASK = 8191;

        private final long[] first;
        private final long[] second;
        private int nextRow;

        Heap() {
            first = new long[ROWS];
            second = new long[ROWS];
            restoreGround();
        }

        /** Later rows need no clearing: each is written whole when it is taken again. */
        void restoreGround() {
            nextRow = FIRST_FREE;
            write(GROUND, NO_ROW, NO_ROW);
            write(USER, GROUND, NO_ROW);
            for (int number = 0; number <= LAST_OPERATIVE; number++) {
                bindInGround(number, Word.make(Word.OPERATIVE, number));
            }
            for (int number = FIRST_APPLICATIVE; number <= LAST_APPLICATIVE; number++) {
                write(number, Word.make(Word.OPERATIVE, number), 0);
                bindInGround(number, Word.make(Word.APPLICATIVE, number));
            }
        }

        private void bindInGround(int symbol, long value) {
            int row = GROUND_BINDINGS + symbol;
            write(row, value, packLink(symbol, latestBindingOf(GROUND)));
            write(GROUND, NO_ROW, row);
        }

        // ---- rows

        int objectCount() {
            return nextRow - FIRST_FREE;
        }

        boolean hasRoomFor(int objects) {
            return ROWS - nextRow >= objects;
        }

        private int add(long one, long other) {
            int row = nextRow;
            if (row < 0 || row >= ROWS) {
                return NO_ROW;
            }
            first[row] = one;
            second[row] = other;
            nextRow++;
            return row;
        }

        private void write(int row, long one, long other) {
            if (row >= 0 && row < ROWS) {
                first[row] = one;
                second[row] = other;
            }
        }

        private long firstAt(int row) {
            return row >= 0 && row < ROWS ? first[row] : Word.NIL;
        }

        private long secondAt(int row) {
            return row >= 0 && row < ROWS ? second[row] : Word.NIL;
        }

        // ---- pairs and lists

        int addPair(long car, long cdr) {
            return add(car, cdr);
        }

        long carOf(long pair) {
            return firstAt(Word.rowOf(pair));
        }

        long cdrOf(long pair) {
            return secondAt(Word.rowOf(pair));
        }

        /** The element at an index that the list is known to have. */
        long elementOf(long list, int index) {
            long rest = list;
            for (int passed = 0; passed < index; passed++) {
                rest = secondAt(Word.rowOf(rest));
            }
            return firstAt(Word.rowOf(rest));
        }

        int lengthOf(long value) {
            long rest = value;
            for (int elements = 0; elements <= ROWS; elements++) {
                if (rest == Word.NIL) {
                    return elements;
                }
                if (Word.kindOf(rest) != Word.PAIR) {
                    return NOT_A_LIST;
                }
                rest = cdrOf(rest);
            }
            return NOT_A_LIST;
        }

        // ---- combiners

        int addApplicative(long underlying) {
            return add(underlying, 0);
        }

        long underlyingOf(long applicative) {
            return firstAt(Word.rowOf(applicative));
        }

        /** A parameter tree is no integer, so its word is small and leaves room for the rest. */
        int addOperative(long parameters, int environmentSymbol, long body, int scope) {
            long packed = (parameters << SYMBOL_BITS) | environmentSymbol;
            return add(body, (packed << ROW_BITS) | scope);
        }

        static boolean isPrimitive(int operative) {
            return operative < FIRST_FREE;
        }

        long bodyOf(int operative) {
            return firstAt(operative);
        }

        long parametersOf(int operative) {
            return secondAt(operative) >> (ROW_BITS + SYMBOL_BITS);
        }

        int environmentSymbolOf(int operative) {
            return (int) ((secondAt(operative) >> ROW_BITS) & SYMBOL_MASK);
        }

        int scopeOf(int operative) {
            return (int) (secondAt(operative) & ROW_MASK);
        }

        // ---- environments

        int addEnvironment(int parent) {
            return add(parent, NO_ROW);
        }

        int parentOf(int environment) {
            return (int) firstAt(environment);
        }

        private int latestBindingOf(int environment) {
            return (int) secondAt(environment);
        }

        private static long packLink(int symbol, int next) {
            return ((long) next << SYMBOL_BITS) | symbol;
        }

        private static int symbolIn(long link) {
            return (int) (link & SYMBOL_MASK);
        }

        private static int nextIn(long link) {
            return (int) (link >> SYMBOL_BITS);
        }

        long boundValueOf(int binding) {
            return firstAt(binding);
        }

        int countBindings(int environment) {
            int count = 0;
            int binding = latestBindingOf(environment);
            while (binding != NO_ROW && count < ROWS) {
                count++;
                binding = nextIn(secondAt(binding));
            }
            return count;
        }

        private int ownBinding(int environment, int symbol) {
            int binding = latestBindingOf(environment);
            for (int passed = 0; binding != NO_ROW && passed < ROWS; passed++) {
                long link = secondAt(binding);
                if (symbolIn(link) == symbol) {
                    return binding;
                }
                binding = nextIn(link);
            }
            return NO_ROW;
        }

        int visibleBinding(int environment, int symbol) {
            int place = environment;
            for (int passed = 0; place != NO_ROW && passed < ROWS; passed++) {
                int binding = ownBinding(place, symbol);
                if (binding != NO_ROW) {
                    return binding;
                }
                place = parentOf(place);
            }
            return NO_ROW;
        }

        /** Returns false, and changes nothing, if a new binding is needed and the heap is full. */
        boolean bind(int environment, int symbol, long value) {
            int binding = ownBinding(environment, symbol);
            if (binding != NO_ROW) {
                write(binding, value, secondAt(binding));
                return true;
            }
            return addBinding(environment, symbol, value);
        }

        /** For a symbol that has no own binding yet; returns false if the heap is full. */
        boolean addBinding(int environment, int symbol, long value) {
            int created = add(value, packLink(symbol, latestBindingOf(environment)));
            if (created == NO_ROW) {
                return false;
            }
            write(environment, firstAt(environment), created);
            return true;
        }
    }

    /** Checks parameter trees, and matches them with operands; both leave the symbols found here. */
    private static final class Matcher {
        private static final int MOST_PAIRS = 100;
        /** A tree of so many pairs has one leaf more than pairs. */
        private static final int MOST_VISITS = 2 * MOST_PAIRS + 1;

        private final Heap heap;
        private final long[] pendingTrees;
        private final long[] pendingParts;
        private int pendingCount;
        private final int[] symbols;
        private final long[] parts;
        private int symbolCount;

        Matcher(Heap heap) {
            this.heap = heap;
            pendingTrees = new long[MOST_PAIRS + 1];
            pendingParts = new long[MOST_PAIRS + 1];
            symbols = new int[Word.SYMBOLS];
            parts = new long[Word.SYMBOLS];
            pendingCount = 0;
            symbolCount = 0;
        }

        boolean isParameterTree(long tree) {
            start(tree, Word.NIL);
            int pairs = 0;
            for (int visits = 0; visits < MOST_VISITS && pendingCount > 0; visits++) {
                long node = takeTree();
                switch (Word.kindOf(node)) {
                    case Word.PAIR:
                        pairs++;
                        if (pairs > MOST_PAIRS) {
                            return false;
                        }
                        putOff(heap.cdrOf(node), Word.NIL);
                        putOff(heap.carOf(node), Word.NIL);
                        break;
                    case Word.SYMBOL:
                        if (hasFound(Word.rowOf(node))) {
                            return false;
                        }
                        find(Word.rowOf(node), Word.NIL);
                        break;
                    case Word.EMPTY_LIST:
                    case Word.UNUSED:
                        break;
                    default:
                        return false;
                }
            }
            return pendingCount == 0;
        }

        boolean matches(long tree, long operands) {
            start(tree, operands);
            for (int visits = 0; visits < MOST_VISITS && pendingCount > 0; visits++) {
                long node = takeTree();
                long part = takenPart();
                switch (Word.kindOf(node)) {
                    case Word.PAIR:
                        if (Word.kindOf(part) != Word.PAIR) {
                            return false;
                        }
                        putOff(heap.cdrOf(node), heap.cdrOf(part));
                        putOff(heap.carOf(node), heap.carOf(part));
                        break;
                    case Word.SYMBOL:
                        find(Word.rowOf(node), part);
                        break;
                    case Word.EMPTY_LIST:
                        if (part != Word.NIL) {
                            return false;
                        }
                        break;
                    default:
                        break;
                }
            }
            return pendingCount == 0;
        }

        boolean hasFound(int symbol) {
            for (int index = 0; index < symbolCount && index < Word.SYMBOLS; index++) {
                if (symbols[index] == symbol) {
                    return true;
                }
            }
            return false;
        }

        /**
         * Binds the symbols in a new environment, which need no search there, as no symbol is twice in a
         * tree. Returns false if the heap is full before all are bound.
         */
        boolean bindFound(int environment) {
            for (int index = 0; index < symbolCount && index < Word.SYMBOLS; index++) {
                if (!heap.addBinding(environment, symbols[index], parts[index])) {
                    return false;
                }
            }
            return true;
        }

        private void start(long tree, long part) {
            symbolCount = 0;
            pendingCount = 0;
            putOff(tree, part);
        }

        private void putOff(long tree, long part) {
            if (pendingCount >= 0 && pendingCount <= MOST_PAIRS) {
                pendingTrees[pendingCount] = tree;
                pendingParts[pendingCount] = part;
                pendingCount++;
            }
        }

        private long takeTree() {
            pendingCount--;
            return pendingCount >= 0 && pendingCount <= MOST_PAIRS ? pendingTrees[pendingCount] : Word.NIL;
        }

        /** What takeTree() took the tree of; its place is not used again before the next putOff. */
        private long takenPart() {
            return pendingCount >= 0 && pendingCount <= MOST_PAIRS ? pendingParts[pendingCount] : Word.NIL;
        }

        private void find(int symbol, long part) {
            if (symbolCount >= 0 && symbolCount < Word.SYMBOLS) {
                symbols[symbolCount] = symbol;
                parts[symbolCount] = part;
                symbolCount++;
            }
        }
    }

    /**
     * The frames: what is to be done with a result, in which environment, and with what. "rest" is
     * the operands that are still needed, "held" a value, and "gathered" a count of arguments.
     */
    private static final class Frames {
        static final int ROOM = 300;
        static final int OPERATOR = 0;
        static final int ARGUMENT = 1;
        static final int TEST = 2;
        static final int DEFINITION = 3;
        static final int PLACE = 4;
        static final int SETTING = 5;
        static final int SEQUENCE = 6;

        private final int[] tasks;
        private final int[] environments;
        private final long[] rests;
        private final long[] helds;
        private final int[] gathereds;
        private int count;
        private int most;

        Frames() {
            tasks = new int[ROOM];
            environments = new int[ROOM];
            rests = new long[ROOM];
            helds = new long[ROOM];
            gathereds = new int[ROOM];
            count = 0;
            most = 0;
        }

        void clear() {
            count = 0;
            most = 0;
        }

        boolean isEmpty() {
            return count <= 0;
        }

        int greatestCount() {
            return most;
        }

        /** Returns false if there are too many frames already. */
        boolean put(int task, int environment, long rest, long held, int gathered) {
            if (count < 0 || count >= ROOM) {
                return false;
            }
            tasks[count] = task;
            environments[count] = environment;
            rests[count] = rest;
            helds[count] = held;
            gathereds[count] = gathered;
            count++;
            if (count > most) {
                most = count;
            }
            return true;
        }

        void take() {
            if (count > 0) {
                count--;
            }
        }

        // What the frame that was taken last says; its place is used again by the next put.

        private boolean canRead() {
            return count >= 0 && count < ROOM;
        }

        int task() {
            return canRead() ? tasks[count] : OPERATOR;
        }

        int environment() {
            return canRead() ? environments[count] : Heap.NO_ROW;
        }

        long rest() {
            return canRead() ? rests[count] : Word.NIL;
        }

        long held() {
            return canRead() ? helds[count] : Word.NIL;
        }

        int gathered() {
            return canRead() ? gathereds[count] : 0;
        }
    }

    /**
     * The machine that evaluates. Each turn does what "mode" says with the registers "current",
     * "operands" and "environment", and says what the next turn does.
     */
    private static final class Machine {
        private static final int EVALUATING = 0;
        private static final int COMBINING = 1;
        private static final int CALLING = 2;
        private static final int RETURNING = 3;
        private static final int ENDED = 4;
        /** Applicatives may be nested 4000 deep and then combine as often in each of 1500 steps. */
        private static final int MOST_TURNS = 10000000;

        private static final int IF = 0;
        private static final int VAU = 1;
        private static final int LAMBDA = 2;
        private static final int DEFINE = 3;
        private static final int SET = 4;
        private static final int BEGIN = 5;
        private static final int QUOTE = 6;
        private static final int SCOPE = 7;
        private static final int ADD = 10;
        private static final int MULTIPLY = 11;
        private static final int SUBTRACT = 12;
        private static final int LESS = 13;
        private static final int SAME = 14;
        private static final int CONS = 15;
        private static final int CAR = 16;
        private static final int CDR = 17;
        private static final int IS_NIL = 18;
        private static final int IS_PAIR = 19;
        private static final int EVAL = 20;
        private static final int WRAP = 21;
        private static final int UNWRAP = 22;
        private static final int NEW_ENVIRONMENT = 23;
        private static final int APPLY = 24;
        private static final int LIST = 25;
        private static final int ANY_COUNT = -1;
        /** How many operands each primitive takes, by its number; ANY_COUNT is written out as -1. */
        private static final int[] OPERAND_COUNTS = {
            3, 3, 2, 2, 3, -1, 1, 0, -1, -1, -1, -1, 2, 2, 2, 2, 1, 1, 1, 1, 2, 1, 1, -1, 2, -1
        };

        private final Heap heap;
        private final Matcher matcher;
        private final Frames frames;
        /** The evaluated arguments of all calls that wait; each has cost a step. */
        private final long[] arguments;
        private int argumentCount;
        private int mode;
        /** The expression to evaluate, the value to combine, or the result to return. */
        private long current;
        private long operands;
        private int environment;
        private int steps;
        private int limit;
        private int failure;

        Machine(Heap heap) {
            this.heap = heap;
            matcher = new Matcher(heap);
            frames = new Frames();
            arguments = new long[GREATEST_LIMIT];
            forget();
        }

        void forget() {
            frames.clear();
            argumentCount = 0;
            mode = ENDED;
            current = Word.NIL;
            operands = Word.NIL;
            environment = Heap.USER;
            steps = 0;
            limit = 0;
            failure = NO_ERROR;
        }

        int stepCount() {
            return steps;
        }

        int mostFrames() {
            return frames.greatestCount();
        }

        /** The result of the latest evaluation, if it did not fail. */
        long answer() {
            return current;
        }

        /** Returns the number of steps, which is greater than 0, or the error. */
        int run(long expression, int where, int mostSteps) {
            forget();
            limit = mostSteps;
            environment = where;
            evaluateInTail(expression);
            for (int turns = 0; turns < MOST_TURNS && mode != ENDED; turns++) {
                switch (mode) {
                    case EVALUATING:
                        evaluateCurrent();
                        break;
                    case COMBINING:
                        combineCurrent();
                        break;
                    case CALLING:
                        callPrimitive(Word.rowOf(current));
                        break;
                    case RETURNING:
                    default:
                        returnCurrent();
                        break;
                }
            }
            return failure != NO_ERROR ? failure : steps;
        }

        // ---- what a turn leaves to the next one

        private void fail(int error) {
            failure = error;
            mode = ENDED;
        }

        private void giveBack(long result) {
            current = result;
            mode = RETURNING;
        }

        private void giveBackNew(int kind, int row) {
            if (row == Heap.NO_ROW) {
                fail(HEAP_FULL);
            } else {
                giveBack(Word.make(kind, row));
            }
        }

        private void giveBackInteger(long number) {
            if (Word.isInteger(number)) {
                giveBack(Word.make(Word.INTEGER, number));
            } else {
                fail(OVERFLOW);
            }
        }

        private void combine(long combiner, long with) {
            current = combiner;
            operands = with;
            mode = COMBINING;
        }

        private void evaluateInTail(long expression) {
            current = expression;
            mode = EVALUATING;
        }

        private void evaluateWithFrame(long expression, int task, long rest, long held, int gathered) {
            if (frames.put(task, environment, rest, held, gathered)) {
                evaluateInTail(expression);
            } else {
                fail(DEPTH_LIMIT);
            }
        }

        // ---- the turns

        private void evaluateCurrent() {
            if (steps >= limit) {
                fail(STEP_LIMIT);
                return;
            }
            steps++;
            int kind = Word.kindOf(current);
            if (kind == Word.PAIR) {
                evaluateWithFrame(heap.carOf(current), Frames.OPERATOR, heap.cdrOf(current), Word.NIL, 0);
            } else if (kind == Word.SYMBOL) {
                lookUp(Word.rowOf(current));
            } else {
                giveBack(current);
            }
        }

        private void lookUp(int symbol) {
            int binding = heap.visibleBinding(environment, symbol);
            if (binding == Heap.NO_ROW) {
                fail(UNBOUND);
            } else {
                giveBack(heap.boundValueOf(binding));
            }
        }

        private void combineCurrent() {
            int kind = Word.kindOf(current);
            if (kind == Word.APPLICATIVE) {
                combineApplicative();
            } else if (kind != Word.OPERATIVE) {
                fail(NOT_COMBINER);
            } else if (Heap.isPrimitive(Word.rowOf(current))) {
                mode = CALLING;
            } else {
                combineCompound(Word.rowOf(current));
            }
        }

        private void returnCurrent() {
            if (frames.isEmpty()) {
                mode = ENDED;
                return;
            }
            frames.take();
            environment = frames.environment();
            long rest = frames.rest();
            switch (frames.task()) {
                case Frames.OPERATOR:
                    combine(current, rest);
                    break;
                case Frames.ARGUMENT:
                    takeArgument(rest, frames.held(), frames.gathered());
                    break;
                case Frames.TEST:
                    choose(rest);
                    break;
                case Frames.DEFINITION:
                    bindCurrent(environment, rest);
                    break;
                case Frames.PLACE:
                    takePlace(rest);
                    break;
                case Frames.SETTING:
                    bindCurrent(Word.rowOf(frames.held()), rest);
                    break;
                case Frames.SEQUENCE:
                default:
                    evaluateSequence(rest);
                    break;
            }
        }

        // ---- applicatives and compound operatives

        private void combineApplicative() {
            if (heap.lengthOf(operands) == Heap.NOT_A_LIST) {
                fail(BAD_OPERANDS);
            } else {
                evaluateArguments(operands, heap.underlyingOf(current), 0);
            }
        }

        private void evaluateArguments(long rest, long underlying, int gathered) {
            if (rest == Word.NIL) {
                combineWithArguments(underlying, gathered);
            } else {
                evaluateWithFrame(heap.carOf(rest), Frames.ARGUMENT, heap.cdrOf(rest), underlying, gathered);
            }
        }

        private void takeArgument(long rest, long underlying, int gathered) {
            if (argumentCount < 0 || argumentCount >= GREATEST_LIMIT) {
                fail(STEP_LIMIT);
                return;
            }
            arguments[argumentCount] = current;
            argumentCount++;
            evaluateArguments(rest, underlying, gathered + 1);
        }

        private void combineWithArguments(long underlying, int gathered) {
            long list = Word.NIL;
            for (int made = 0; made < gathered; made++) {
                int pair = heap.addPair(latestArgument(), list);
                if (pair == Heap.NO_ROW) {
                    fail(HEAP_FULL);
                    return;
                }
                argumentCount--;
                list = Word.make(Word.PAIR, pair);
            }
            combine(underlying, list);
        }

        private long latestArgument() {
            int index = argumentCount - 1;
            return index >= 0 && index < GREATEST_LIMIT ? arguments[index] : Word.NIL;
        }

        private void combineCompound(int operative) {
            if (!matcher.matches(heap.parametersOf(operative), operands)) {
                fail(BAD_OPERANDS);
                return;
            }
            int inner = heap.addEnvironment(heap.scopeOf(operative));
            if (inner == Heap.NO_ROW || !matcher.bindFound(inner)
                    || !bindCaller(inner, heap.environmentSymbolOf(operative))) {
                fail(HEAP_FULL);
                return;
            }
            environment = inner;
            evaluateInTail(heap.bodyOf(operative));
        }

        /** The environment parameter is not in the tree, so it has no binding in the new environment yet. */
        private boolean bindCaller(int inner, int symbol) {
            return symbol == Heap.NO_SYMBOL
                    || heap.addBinding(inner, symbol, Word.make(Word.ENVIRONMENT, environment));
        }

        // ---- primitive operatives and their operands

        private void callPrimitive(int number) {
            int count = heap.lengthOf(operands);
            if (!hasDueCount(number, count) || !haveDueKinds(number, count)) {
                fail(BAD_OPERANDS);
            } else if (number < ADD) {
                callSpecial(number);
            } else if (number < EVAL) {
                callDataFunction(number);
            } else {
                callScopeFunction(number, count);
            }
        }

        private boolean hasDueCount(int number, int count) {
            if (number < 0 || number >= OPERAND_COUNTS.length || count == Heap.NOT_A_LIST) {
                return false;
            }
            return OPERAND_COUNTS[number] == count || OPERAND_COUNTS[number] == ANY_COUNT;
        }

        private boolean haveDueKinds(int number, int count) {
            switch (number) {
                case VAU:
                    return matcher.isParameterTree(operand(0)) && canNameCaller(operand(1));
                case LAMBDA:
                    return matcher.isParameterTree(operand(0));
                case DEFINE:
                    return isOperand(0, Word.SYMBOL);
                case SET:
                    return isOperand(1, Word.SYMBOL);
                case ADD:
                case MULTIPLY:
                case SUBTRACT:
                case LESS:
                    return areIntegers();
                case CAR:
                case CDR:
                    return isOperand(0, Word.PAIR);
                case EVAL:
                    return isOperand(1, Word.ENVIRONMENT);
                case WRAP:
                    return Word.isCombiner(operand(0));
                case UNWRAP:
                case APPLY:
                    return isOperand(0, Word.APPLICATIVE);
                case NEW_ENVIRONMENT:
                    return count == 0 || count == 1 && isOperand(0, Word.ENVIRONMENT);
                default:
                    return true;
            }
        }

        /** Whether a value may be the environment parameter, with the tree that was checked last. */
        private boolean canNameCaller(long value) {
            int kind = Word.kindOf(value);
            return value == Word.INERT || kind == Word.SYMBOL && !matcher.hasFound(Word.rowOf(value));
        }

        private boolean areIntegers() {
            long rest = operands;
            for (int seen = 0; rest != Word.NIL && seen < Heap.ROWS; seen++) {
                if (Word.kindOf(heap.carOf(rest)) != Word.INTEGER) {
                    return false;
                }
                rest = heap.cdrOf(rest);
            }
            return true;
        }

        private boolean isOperand(int index, int kind) {
            return Word.kindOf(heap.elementOf(operands, index)) == kind;
        }

        private long operand(int index) {
            return heap.elementOf(operands, index);
        }

        // ---- the primitive operatives 0 to 7

        private void callSpecial(int number) {
            switch (number) {
                case IF:
                    evaluateWithFrame(operand(0), Frames.TEST, heap.cdrOf(operands), Word.NIL, 0);
                    break;
                case VAU:
                    makeOperative(operand(0), operand(1), operand(2));
                    break;
                case LAMBDA:
                    makeFunction(operand(0), operand(1));
                    break;
                case DEFINE:
                    evaluateWithFrame(operand(1), Frames.DEFINITION, operands, Word.NIL, 0);
                    break;
                case SET:
                    evaluateWithFrame(operand(0), Frames.PLACE, heap.cdrOf(operands), Word.NIL, 0);
                    break;
                case BEGIN:
                    evaluateSequence(operands);
                    break;
                case QUOTE:
                    giveBack(operand(0));
                    break;
                case SCOPE:
                default:
                    giveBack(Word.make(Word.ENVIRONMENT, environment));
                    break;
            }
        }

        private void makeOperative(long parameters, long caller, long body) {
            int symbol = caller == Word.INERT ? Heap.NO_SYMBOL : Word.rowOf(caller);
            giveBackNew(Word.OPERATIVE, heap.addOperative(parameters, symbol, body, environment));
        }

        private void makeFunction(long parameters, long body) {
            int operative = heap.addOperative(parameters, Heap.NO_SYMBOL, body, environment);
            if (operative == Heap.NO_ROW) {
                fail(HEAP_FULL);
            } else {
                giveBackNew(Word.APPLICATIVE, heap.addApplicative(Word.make(Word.OPERATIVE, operative)));
            }
        }

        /** Goes on with "if"; the alternatives are the list (yes no). */
        private void choose(long alternatives) {
            if (Word.kindOf(current) != Word.BOOLEAN) {
                fail(BAD_OPERANDS);
            } else {
                evaluateInTail(heap.elementOf(alternatives, Word.contentOf(current) == 1 ? 0 : 1));
            }
        }

        /** Goes on with "set", whose environment is there now; the rest is (symbol expression). */
        private void takePlace(long rest) {
            if (Word.kindOf(current) != Word.ENVIRONMENT) {
                fail(BAD_OPERANDS);
            } else {
                evaluateWithFrame(heap.elementOf(rest, 1), Frames.SETTING, rest, current, 0);
            }
        }

        /** Ends "define" and "set"; the rest is (symbol expression). */
        private void bindCurrent(int place, long rest) {
            if (heap.bind(place, Word.rowOf(heap.carOf(rest)), current)) {
                giveBack(Word.INERT);
            } else {
                fail(HEAP_FULL);
            }
        }

        private void evaluateSequence(long expressions) {
            if (expressions == Word.NIL) {
                giveBack(Word.INERT);
            } else if (heap.cdrOf(expressions) == Word.NIL) {
                evaluateInTail(heap.carOf(expressions));
            } else {
                long rest = heap.cdrOf(expressions);
                evaluateWithFrame(heap.carOf(expressions), Frames.SEQUENCE, rest, Word.NIL, 0);
            }
        }

        // ---- the primitive operatives 10 to 25, below the applicatives

        private void callDataFunction(int number) {
            switch (number) {
                case ADD:
                case MULTIPLY:
                    accumulate(number == MULTIPLY);
                    break;
                case SUBTRACT:
                    giveBackInteger(Word.contentOf(operand(0)) - Word.contentOf(operand(1)));
                    break;
                case LESS:
                    giveBack(Word.makeBoolean(Word.contentOf(operand(0)) < Word.contentOf(operand(1))));
                    break;
                case SAME:
                    giveBack(Word.makeBoolean(operand(0) == operand(1)));
                    break;
                case CONS:
                    giveBackNew(Word.PAIR, heap.addPair(operand(0), operand(1)));
                    break;
                case CAR:
                    giveBack(heap.carOf(operand(0)));
                    break;
                case CDR:
                    giveBack(heap.cdrOf(operand(0)));
                    break;
                case IS_NIL:
                    giveBack(Word.makeBoolean(operand(0) == Word.NIL));
                    break;
                case IS_PAIR:
                default:
                    giveBack(Word.makeBoolean(isOperand(0, Word.PAIR)));
                    break;
            }
        }

        private void accumulate(boolean isProduct) {
            long total = isProduct ? 1 : 0;
            long rest = operands;
            for (int seen = 0; rest != Word.NIL && seen < Heap.ROWS; seen++) {
                long next = Word.contentOf(heap.carOf(rest));
                total = isProduct ? Word.product(total, next) : total + next;
                if (!Word.isInteger(total)) {
                    fail(OVERFLOW);
                    return;
                }
                rest = heap.cdrOf(rest);
            }
            giveBackInteger(total);
        }

        private void callScopeFunction(int number, int count) {
            switch (number) {
                case EVAL:
                    environment = Word.rowOf(operand(1));
                    evaluateInTail(operand(0));
                    break;
                case WRAP:
                    giveBackNew(Word.APPLICATIVE, heap.addApplicative(operand(0)));
                    break;
                case UNWRAP:
                    giveBack(heap.underlyingOf(operand(0)));
                    break;
                case NEW_ENVIRONMENT:
                    makeEnvironment(count == 0 ? Heap.NO_ROW : Word.rowOf(operand(0)));
                    break;
                case APPLY:
                    applyWithoutScope();
                    break;
                case LIST:
                default:
                    giveBack(operands);
                    break;
            }
        }

        private void makeEnvironment(int parent) {
            giveBackNew(Word.ENVIRONMENT, heap.addEnvironment(parent));
        }

        private void applyWithoutScope() {
            int empty = heap.addEnvironment(Heap.NO_ROW);
            if (empty == Heap.NO_ROW) {
                fail(HEAP_FULL);
                return;
            }
            long underlying = heap.underlyingOf(operand(0));
            long value = operand(1);
            environment = empty;
            combine(underlying, value);
        }
    }
}
