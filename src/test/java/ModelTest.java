import java.util.Map;
import java.util.TreeMap;

/**
 * Random runs of calls, made from fixed seeds, that must be answered as the Model answers them. A
 * run ends with the 512th call, as nothing is promised about an object behind it.
 */
public final class ModelTest {
    private static final int RUNS = 12000;
    private static final int MOST_CALLS = 512;
    /** Their names are what the random expressions call. */
    private static final String[] HELPERS = {
        "(define s60 (lambda (n l) (if (less n 1) l (s60 (subtract n 1) (cons n l)))))",
        "(define s61 (vau a e (begin (s61 . a) 1)))",
        "(define s62 (lambda (n) (if (less n 1) (environment) (environment (s62 (subtract n 1))))))",
        "(define s63 (vau ((a b c d f g h i j k . l) . m) e (begin (s63 (a b c d f g h i j k) l m) e)))",
        "(define a 5)", "(define b (list 1 2))", "(define c #f)", "(define d (environment (scope)))",
        "(define e (lambda (a b) b))", "(define f (vau (a . b) c (eval a c)))"
    };
    private static final int ANY = 0;
    private static final int INTEGER = 1;
    private static final int BOOLEAN = 2;
    private static final int SCOPE = 3;
    private static final int COMBINER = 4;
    private static final int PAIR = 5;
    private static final int APPLICATIVE = 6;
    private static final Check check = new Check();
    private static final Map<Integer, Integer> outcomes = new TreeMap<>();

    private final int run;
    private final ScopeInterpreter x = new ScopeInterpreter();
    private final Model model = new Model();
    private long state;
    private int calls = 0;

    /** Ends a run. */
    private static final class Enough extends RuntimeException {
        private static final long serialVersionUID = 1L;
    }

    private ModelTest(int run) {
        this.run = run;
        state = run * 7919L + 17;
    }

    public static void main(String[] args) {
        for (int run = 0; run < RUNS; run++) {
            new ModelTest(run).play();
        }
        int[] due = {-6, -7, -8, -9, -10, -11, -5, 1};
        for (int outcome : due) {
            check.due("some evaluation ended with " + outcome, outcomes.containsKey(outcome));
        }
        System.out.println("how the evaluations ended (1: with a result): " + outcomes);
        check.finish();
    }

    private int random(int bound) {
        state = state * 6364136223846793005L + 1442695040888963407L;
        return (int) ((state >>> 33) % bound);
    }

    private boolean chance(int percent) {
        return random(100) < percent;
    }

    private void same(String call, long got, long want) {
        check.due("run " + run + ": " + call, got, want);
        calls++;
        if (calls == MOST_CALLS) {
            throw new Enough();
        }
    }

    private void play() {
        try {
            begin();
            for (int round = 0; round < MOST_CALLS; round++) {
                if (chance(40)) {
                    makeRoom();
                    expression(ANY, 2 + random(5));
                    evaluate();
                } else {
                    randomCall();
                }
            }
        } catch (Enough enough) {
            // the object has been asked as often as is promised
        }
    }

    private void begin() {
        if (chance(30)) {
            same("setLimit", x.setLimit(1500), model.setLimit(1500));
        }
        if (chance(60)) {
            for (int count = 1 + random(4); count > 0; count--) {
                define(HELPERS[random(HELPERS.length)]);
            }
        }
        if (chance(15)) {
            fillHeap();
        }
    }

    private void define(String text) {
        replay(text);
        evaluate();
        same("drop", x.drop(1), model.drop(1));
    }

    /** Leaves some objects' room, so that small expressions find the heap full. */
    private void fillHeap() {
        define("(define s97 (vau (a b c d e f g) #inert (s97 1 2 3 4 5 6 7)))");
        replay("(s97 1 2 3 4 5 6 7)");
        int steps = 2 * (400 + random(100));
        same("setLimit", x.setLimit(steps), model.setLimit(steps));
        evaluate();
        same("setLimit", x.setLimit(1000), model.setLimit(1000));
    }

    private void makeRoom() {
        if (model.size() > 20) {
            int n = model.size() - random(5);
            same("drop", x.drop(n), model.drop(n));
        }
    }

    private void evaluate() {
        int want = model.evaluate();
        outcomes.merge(want > 0 ? 1 : want, 1, Integer::sum);
        same("evaluate", x.evaluate(), want);
        same("latest(0)", x.latest(0), model.latest(0));
        same("latest(1)", x.latest(1), model.latest(1));
        same("heapSize", x.heapSize(), model.heapSize());
        read(0);
    }

    private void read(int depth) {
        same("size", x.size(), model.size());
        same("kind", x.kind(depth), model.kind(depth));
        same("value", x.value(depth), model.value(depth));
        same("length", x.length(depth), model.length(depth));
        same("bindingCount", x.bindingCount(depth), model.bindingCount(depth));
    }

    // ---- calls of any kind

    private int depth() {
        return chance(80) ? random(6) : random(44) - 2;
    }

    private void randomCall() {
        int depth = depth();
        int part = chance(90) ? random(2) : random(5) - 2;
        int symbol = chance(80) ? variable() : random(104) - 2;
        switch (random(20)) {
            case 0:
                long number = chance(50) ? random(9) - 4 : bigNumber();
                same("pushInteger", x.pushInteger(number), model.pushInteger(number));
                break;
            case 1:
                same("pushEnvironment", x.pushEnvironment(), model.pushEnvironment());
                break;
            case 2:
                same("pushCopy", x.pushCopy(depth), model.pushCopy(depth));
                break;
            case 3:
            case 4:
            case 5:
                same("pushPart", x.pushPart(depth, part), model.pushPart(depth, part));
                break;
            case 6:
                same("pushBinding", x.pushBinding(depth, symbol), model.pushBinding(depth, symbol));
                break;
            case 7:
                same("makePair", x.makePair(), model.makePair());
                break;
            case 8:
                int count = chance(80) ? random(4) : random(44) - 2;
                same("makeList", x.makeList(count), model.makeList(count));
                break;
            case 9:
                int n = chance(80) ? random(4) : random(44) - 2;
                same("drop", x.drop(n), model.drop(n));
                break;
            case 10:
                if (chance(5)) {
                    same("reset", x.reset(), model.reset());
                }
                break;
            case 11:
            case 12:
                int other = depth();
                same("areSame", x.areSame(depth, other), model.areSame(depth, other));
                break;
            case 13:
                same("useEnvironment", x.useEnvironment(), model.useEnvironment());
                break;
            case 14:
            case 15:
                same("useUser", x.useUser(), model.useUser());
                break;
            case 16:
                int limit = chance(20) ? random(30) - 2 : 900 + random(620);
                same("setLimit", x.setLimit(limit), model.setLimit(limit));
                break;
            case 17:
                same("latest", x.latest(part), model.latest(part));
                break;
            case 18:
                same("pushSymbol", x.pushSymbol(symbol), model.pushSymbol(symbol));
                break;
            default:
                read(depth);
                evaluate();
                break;
        }
    }

    private int variable() {
        return 40 + random(6);
    }

    private long bigNumber() {
        long[] numbers = {
            1000000000000000L, -1000000000000000L, 1000000000000001L, -1000000000000001L, 31622776L, 31622777L,
            Long.MAX_VALUE, Long.MIN_VALUE, 999999999999999L, 33554432L
        };
        return numbers[random(numbers.length)];
    }

    // ---- expressions; each of these functions pushes one value

    private void symbol(int number) {
        same("pushSymbol", x.pushSymbol(number), model.pushSymbol(number));
    }

    private void integer(long number) {
        same("pushInteger", x.pushInteger(number), model.pushInteger(number));
    }

    private void list(int n) {
        same("makeList", x.makeList(n), model.makeList(n));
    }

    private void empty(boolean isInert) {
        same("pushEmpty", x.pushEmpty(isInert), model.pushEmpty(isInert));
    }

    /** Pushes a text on both; the reader's interpreter is only used to take it apart. */
    private void replay(String text) {
        Lisp reader = new Lisp(check);
        reader.push(text);
        copyFrom(reader.x);
    }

    private void copyFrom(ScopeInterpreter source) {
        int kind = source.kind(0);
        if (kind == 4) {
            source.pushPart(0, 0);
            copyFrom(source);
            source.pushPart(0, 1);
            copyFrom(source);
            same("makePair", x.makePair(), model.makePair());
        } else if (kind == 0) {
            integer(source.value(0));
        } else if (kind == 1) {
            boolean truth = source.value(0) == 1;
            same("pushBoolean", x.pushBoolean(truth), model.pushBoolean(truth));
        } else if (kind == 2) {
            symbol((int) source.value(0));
        } else {
            empty(kind == 8);
        }
        source.drop(1);
    }

    private void expression(int wanted, int depth) {
        int type = chance(4) ? random(7) : wanted;
        if (chance(4)) {
            odd(depth);
        } else if (depth <= 0 || chance(10)) {
            leaf(type);
        } else if (chance(12)) {
            wrapped(type, depth - 1);
        } else {
            made(type, depth - 1);
        }
    }

    private void leaf(int type) {
        switch (type) {
            case INTEGER:
                integer(chance(90) ? random(12) - 3 : random(2) * 1000000000000000L - random(3));
                break;
            case BOOLEAN:
                boolean truth = chance(50);
                same("pushBoolean", x.pushBoolean(truth), model.pushBoolean(truth));
                break;
            case SCOPE:
                symbol(7);
                list(1);
                break;
            case COMBINER:
                symbol(chance(50) ? random(8) : 10 + random(16));
                break;
            case APPLICATIVE:
                symbol(10 + random(16));
                break;
            case PAIR:
                symbol(6);
                integer(random(5));
                symbol(variable());
                list(1 + random(2));
                list(2);
                break;
            default:
                symbol(variable());
                break;
        }
    }

    /** What can stand for an expression of any type. */
    private void wrapped(int type, int depth) {
        switch (random(6)) {
            case 0:
                symbol(0);
                expression(BOOLEAN, depth);
                expression(type, depth);
                expression(type, depth);
                list(4);
                break;
            case 1:
                symbol(5);
                expression(ANY, depth);
                expression(type, depth);
                list(3);
                break;
            case 2:
                symbol(20);
                symbol(6);
                expression(type, depth);
                list(2);
                expression(SCOPE, depth);
                list(3);
                break;
            case 3:
                symbol(16);
                symbol(15);
                expression(type, depth);
                expression(ANY, depth - 1);
                list(3);
                list(2);
                break;
            case 4:
                function(type, depth);
                expression(ANY, depth);
                expression(INTEGER, depth);
                list(3);
                break;
            default:
                symbol(variable());
                break;
        }
    }

    /** (lambda (v w) body), at times with other parameters. */
    private void function(int type, int depth) {
        boolean isVau = chance(30);
        symbol(isVau ? 1 : 2);
        parameters();
        if (isVau) {
            if (chance(50)) {
                empty(true);
            } else {
                symbol(variable());
            }
        }
        expression(type, depth);
        list(isVau ? 4 : 3);
    }

    private void parameters() {
        int shape = random(6);
        if (shape == 0) {
            symbol(variable());
            return;
        }
        symbol(variable());
        symbol(variable());
        if (shape == 1) {
            same("makePair", x.makePair(), model.makePair());
        } else if (shape == 2) {
            empty(true);
            list(3);
        } else {
            list(2);
        }
    }

    private void made(int type, int depth) {
        switch (type) {
            case INTEGER:
                int operator = 10 + random(3);
                symbol(operator);
                int count = operator == 12 ? 2 : random(4);
                for (int index = 0; index < count; index++) {
                    expression(INTEGER, depth);
                }
                list(count + 1);
                break;
            case BOOLEAN:
                madeBoolean(depth);
                break;
            case SCOPE:
                symbol(23);
                if (chance(60)) {
                    expression(SCOPE, depth);
                    list(2);
                } else {
                    list(1);
                }
                break;
            case COMBINER:
                madeCombiner(depth);
                break;
            case APPLICATIVE:
                symbol(21);
                expression(COMBINER, depth);
                list(2);
                break;
            case PAIR:
                symbol(15);
                expression(ANY, depth);
                expression(chance(50) ? PAIR : ANY, depth);
                list(3);
                break;
            default:
                madeAny(depth);
                break;
        }
    }

    private void madeBoolean(int depth) {
        int operator = random(4);
        symbol(operator == 0 ? 13 : operator == 1 ? 14 : operator == 2 ? 18 : 19);
        expression(operator == 0 ? INTEGER : ANY, depth);
        if (operator <= 1) {
            expression(operator == 0 ? INTEGER : ANY, depth);
        }
        list(operator <= 1 ? 3 : 2);
    }

    private void madeCombiner(int depth) {
        if (chance(30)) {
            symbol(22);
            expression(APPLICATIVE, depth);
            list(2);
        } else if (chance(30)) {
            symbol(21);
            expression(COMBINER, depth);
            list(2);
        } else {
            function(ANY, depth);
        }
    }

    private void madeAny(int depth) {
        switch (random(12)) {
            case 0:
            case 1:
                symbol(3);
                symbol(variable());
                expression(random(7), depth);
                list(3);
                break;
            case 2:
                symbol(4);
                expression(SCOPE, depth);
                symbol(variable());
                expression(random(7), depth);
                list(4);
                break;
            case 3:
                symbol(24);
                expression(APPLICATIVE, depth);
                expression(chance(80) ? PAIR : ANY, depth);
                list(3);
                break;
            case 4:
                symbol(25);
                expression(ANY, depth);
                expression(ANY, depth);
                list(3);
                break;
            case 5:
                symbol(16 + random(2));
                expression(PAIR, depth);
                list(2);
                break;
            case 6:
                expression(COMBINER, depth);
                expression(ANY, depth);
                expression(ANY, depth);
                list(3);
                break;
            case 7:
                symbol(60);
                integer(random(100));
                expression(PAIR, depth);
                list(3);
                break;
            case 8:
                callHelper();
                break;
            default:
                expression(1 + random(6), depth);
                break;
        }
    }

    private void callHelper() {
        if (chance(40)) {
            symbol(62);
            integer(random(40));
            list(2);
        } else if (chance(50)) {
            symbol(61);
            integer(1);
            integer(2);
            list(3);
        } else {
            symbol(63);
            for (int index = 0; index < 10; index++) {
                integer(index);
            }
            list(10);
            list(2);
        }
    }

    /** Something that is often no expression at all. */
    private void odd(int depth) {
        switch (random(4)) {
            case 0:
                expression(ANY, depth - 1);
                expression(ANY, depth - 1);
                same("makePair", x.makePair(), model.makePair());
                break;
            case 1:
                empty(chance(50));
                break;
            case 2:
                int from = random(5);
                same("pushCopy", x.pushCopy(from), model.pushCopy(from));
                break;
            default:
                int name = random(100);
                symbol(name);
                break;
        }
    }
}
