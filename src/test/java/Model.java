import java.util.ArrayList;
import java.util.List;
import java.util.Map;
import java.util.TreeMap;

/**
 * A second interpreter, written from the document alone and in another way: with Java objects for
 * values, Java's recursion for frames, and exceptions for failures. The random runs of ModelTest
 * compare it with the class under test.
 */
final class Model {
    private static final long GREATEST = 1000000000000000L;

    private enum Empty { NIL, INERT }

    private record Symbol(int number) { }

    private static final class Pair {
        final Object car;
        final Object cdr;

        Pair(Object car, Object cdr) {
            this.car = car;
            this.cdr = cdr;
        }
    }

    private static final class Operative {
        final int primitive;
        final Object tree;
        final Object caller;
        final Object body;
        final Scope scope;

        Operative(int primitive, Object tree, Object caller, Object body, Scope scope) {
            this.primitive = primitive;
            this.tree = tree;
            this.caller = caller;
            this.body = body;
            this.scope = scope;
        }
    }

    private static final class Applicative {
        final Object underlying;

        Applicative(Object underlying) {
            this.underlying = underlying;
        }
    }

    private static final class Scope {
        final Scope parent;
        final Map<Integer, Object> bindings = new TreeMap<>();

        Scope(Scope parent) {
            this.parent = parent;
        }

        Object find(int symbol) {
            Object own = bindings.get(symbol);
            return own != null ? own : parent != null ? parent.find(symbol) : null;
        }
    }

    private static final class Failure extends RuntimeException {
        private static final long serialVersionUID = 1L;
        final int error;

        Failure(int error) {
            super(null, null, false, false);
            this.error = error;
        }
    }

    private final List<Object> stack = new ArrayList<>();
    private Scope user;
    private Scope present;
    private int limit;
    private int heap;
    private int steps;
    private int frames;
    private int most;

    Model() {
        begin();
    }

    private void begin() {
        stack.clear();
        Scope ground = new Scope(null);
        for (int number = 0; number <= 25; number++) {
            if (number <= 7) {
                ground.bindings.put(number, new Operative(number, null, null, null, null));
            } else if (number >= 10) {
                Operative operative = new Operative(number, null, null, null, null);
                ground.bindings.put(number, new Applicative(operative));
            }
        }
        user = new Scope(ground);
        present = user;
        limit = 1000;
        heap = 0;
        steps = 0;
        most = 0;
    }

    // ---- the face

    private int push(Object value) {
        if (stack.size() == 40) {
            return ScopeInterpreter.STACK_FULL;
        }
        stack.add(value);
        return stack.size();
    }

    private Object at(int depth) {
        return stack.get(stack.size() - 1 - depth);
    }

    private void pop(int count) {
        for (int done = 0; done < count; done++) {
            stack.remove(stack.size() - 1);
        }
    }

    int pushInteger(long value) {
        return Math.abs(value) > GREATEST || value == Long.MIN_VALUE ? ScopeInterpreter.BAD_VALUE : push(value);
    }

    int pushBoolean(boolean value) {
        return push(value);
    }

    int pushSymbol(int symbol) {
        return symbol < 0 || symbol > 99 ? ScopeInterpreter.BAD_VALUE : push(new Symbol(symbol));
    }

    int pushEmpty(boolean isInert) {
        return push(isInert ? Empty.INERT : Empty.NIL);
    }

    int pushEnvironment() {
        return push(present);
    }

    int pushCopy(int depth) {
        if (depth < 0) {
            return ScopeInterpreter.BAD_VALUE;
        }
        return depth >= stack.size() ? ScopeInterpreter.TOO_FEW : push(at(depth));
    }

    int pushPart(int depth, int part) {
        if (depth < 0 || part < 0 || part > 1) {
            return ScopeInterpreter.BAD_VALUE;
        }
        if (depth >= stack.size()) {
            return ScopeInterpreter.TOO_FEW;
        }
        Object whole = at(depth);
        boolean hasPart = whole instanceof Pair
                || part == 0 && (whole instanceof Applicative || whole instanceof Scope);
        if (!hasPart) {
            return ScopeInterpreter.WRONG_KIND;
        }
        if (stack.size() == 40) {
            return ScopeInterpreter.STACK_FULL;
        }
        if (whole instanceof Pair pair) {
            return push(part == 0 ? pair.car : pair.cdr);
        }
        if (whole instanceof Applicative applicative) {
            return push(applicative.underlying);
        }
        Scope parent = ((Scope) whole).parent;
        return parent == null ? ScopeInterpreter.NONE : push(parent);
    }

    int pushBinding(int depth, int symbol) {
        if (depth < 0 || symbol < 0 || symbol > 99) {
            return ScopeInterpreter.BAD_VALUE;
        }
        if (depth >= stack.size()) {
            return ScopeInterpreter.TOO_FEW;
        }
        if (!(at(depth) instanceof Scope scope)) {
            return ScopeInterpreter.WRONG_KIND;
        }
        Object value = scope.find(symbol);
        return value == null ? ScopeInterpreter.UNBOUND : push(value);
    }

    int makePair() {
        if (stack.size() < 2) {
            return ScopeInterpreter.TOO_FEW;
        }
        if (heap == 4000) {
            return ScopeInterpreter.HEAP_FULL;
        }
        heap++;
        Pair pair = new Pair(at(1), at(0));
        pop(2);
        return push(pair);
    }

    int makeList(int n) {
        if (n < 0 || n > 40) {
            return ScopeInterpreter.BAD_VALUE;
        }
        if (n > stack.size()) {
            return ScopeInterpreter.TOO_FEW;
        }
        if (heap + n > 4000) {
            return ScopeInterpreter.HEAP_FULL;
        }
        if (n == 0) {
            return push(Empty.NIL);
        }
        Object list = Empty.NIL;
        for (int index = 0; index < n; index++) {
            list = new Pair(at(index), list);
        }
        heap += n;
        pop(n);
        return push(list);
    }

    int drop(int n) {
        if (n < 0 || n > 40) {
            return ScopeInterpreter.BAD_VALUE;
        }
        if (n > stack.size()) {
            return ScopeInterpreter.TOO_FEW;
        }
        pop(n);
        return stack.size();
    }

    int reset() {
        int had = heap;
        begin();
        return had;
    }

    int size() {
        return stack.size();
    }

    int kind(int depth) {
        if (depth < 0) {
            return ScopeInterpreter.BAD_VALUE;
        }
        if (depth >= stack.size()) {
            return ScopeInterpreter.TOO_FEW;
        }
        Object value = at(depth);
        Class<?>[] kinds = {
            Long.class, Boolean.class, Symbol.class, null, Pair.class, Operative.class, Applicative.class, Scope.class
        };
        for (int kind = 0; kind < kinds.length; kind++) {
            if (value.getClass() == kinds[kind]) {
                return kind;
            }
        }
        return value == Empty.NIL ? 3 : 8;
    }

    long value(int depth) {
        if (depth < 0 || depth >= stack.size()) {
            return ScopeInterpreter.NO_VALUE;
        }
        Object value = at(depth);
        if (value instanceof Long number) {
            return number;
        }
        if (value instanceof Boolean truth) {
            return truth ? 1 : 0;
        }
        return value instanceof Symbol symbol ? symbol.number() : ScopeInterpreter.NO_VALUE;
    }

    private static boolean same(Object one, Object other) {
        boolean byValue = one instanceof Long || one instanceof Boolean || one instanceof Symbol;
        return byValue ? one.equals(other) : one == other;
    }

    int areSame(int depth, int other) {
        if (depth < 0 || other < 0) {
            return ScopeInterpreter.BAD_VALUE;
        }
        if (depth >= stack.size() || other >= stack.size()) {
            return ScopeInterpreter.TOO_FEW;
        }
        return same(at(depth), at(other)) ? 1 : 0;
    }

    /** The elements of a list, or null if the value is not a list. */
    private static List<Object> elements(Object value) {
        List<Object> elements = new ArrayList<>();
        Object rest = value;
        while (rest instanceof Pair pair) {
            elements.add(pair.car);
            rest = pair.cdr;
        }
        return rest == Empty.NIL ? elements : null;
    }

    int length(int depth) {
        if (depth < 0) {
            return ScopeInterpreter.BAD_VALUE;
        }
        if (depth >= stack.size()) {
            return ScopeInterpreter.TOO_FEW;
        }
        List<Object> elements = elements(at(depth));
        return elements == null ? ScopeInterpreter.WRONG_KIND : elements.size();
    }

    int bindingCount(int depth) {
        if (depth < 0) {
            return ScopeInterpreter.BAD_VALUE;
        }
        if (depth >= stack.size()) {
            return ScopeInterpreter.TOO_FEW;
        }
        return at(depth) instanceof Scope scope ? scope.bindings.size() : ScopeInterpreter.WRONG_KIND;
    }

    int evaluate() {
        if (stack.isEmpty()) {
            return ScopeInterpreter.TOO_FEW;
        }
        Object expression = at(0);
        pop(1);
        steps = 0;
        frames = 0;
        most = 0;
        try {
            push(evaluate(expression, present));
            return steps;
        } catch (Failure failure) {
            return failure.error;
        }
    }

    int useEnvironment() {
        if (stack.isEmpty()) {
            return ScopeInterpreter.TOO_FEW;
        }
        if (!(at(0) instanceof Scope scope)) {
            return ScopeInterpreter.WRONG_KIND;
        }
        present = scope;
        pop(1);
        return stack.size();
    }

    int useUser() {
        int change = present == user ? 0 : 1;
        present = user;
        return change;
    }

    int setLimit(int newLimit) {
        if (newLimit < 1 || newLimit > 1500) {
            return ScopeInterpreter.BAD_VALUE;
        }
        int previous = limit;
        limit = newLimit;
        return previous;
    }

    int latest(int what) {
        return what == 0 ? steps : what == 1 ? most : ScopeInterpreter.BAD_VALUE;
    }

    int heapSize() {
        return heap;
    }

    // ---- evaluation

    private void create() {
        need(heap < 4000, ScopeInterpreter.HEAP_FULL);
        heap++;
    }

    private static void need(boolean condition, int error) {
        if (!condition) {
            throw new Failure(error);
        }
    }

    private static void needFit(boolean condition) {
        need(condition, ScopeInterpreter.BAD_OPERANDS);
    }

    private void bind(Scope scope, int symbol, Object value) {
        if (!scope.bindings.containsKey(symbol)) {
            create();
        }
        scope.bindings.put(symbol, value);
    }

    private Object framed(Object expression, Scope scope) {
        need(frames < 300, ScopeInterpreter.DEPTH_LIMIT);
        frames++;
        most = Math.max(most, frames);
        Object result = evaluate(expression, scope);
        frames--;
        return result;
    }

    /** What is to be evaluated next, without a frame. */
    private record Tail(Object expression, Scope scope) { }

    private Object evaluate(Object first, Scope firstScope) {
        Object expression = first;
        Scope scope = firstScope;
        while (true) {
            need(steps < limit, ScopeInterpreter.STEP_LIMIT);
            steps++;
            if (expression instanceof Symbol symbol) {
                Object value = scope.find(symbol.number());
                need(value != null, ScopeInterpreter.UNBOUND);
                return value;
            }
            if (!(expression instanceof Pair pair)) {
                return expression;
            }
            Object outcome = combine(framed(pair.car, scope), pair.cdr, scope);
            if (!(outcome instanceof Tail tail)) {
                return outcome;
            }
            expression = tail.expression();
            scope = tail.scope();
        }
    }

    private Object combine(Object firstCombiner, Object firstOperands, Scope firstScope) {
        Object combiner = firstCombiner;
        Object operands = firstOperands;
        Scope scope = firstScope;
        while (true) {
            if (combiner instanceof Applicative applicative) {
                operands = arguments(operands, scope);
                combiner = applicative.underlying;
                continue;
            }
            need(combiner instanceof Operative, ScopeInterpreter.NOT_COMBINER);
            Operative operative = (Operative) combiner;
            if (operative.tree != null) {
                return callCompound(operative, operands, scope);
            }
            List<Object> list = elements(operands);
            needFit(list != null);
            if (operative.primitive != 24) {
                return callPrimitive(operative.primitive, list, operands, scope);
            }
            needFit(list.size() == 2 && list.get(0) instanceof Applicative);
            create();
            combiner = ((Applicative) list.get(0)).underlying;
            operands = list.get(1);
            scope = new Scope(null);
        }
    }

    private Object arguments(Object operands, Scope scope) {
        List<Object> list = elements(operands);
        needFit(list != null);
        List<Object> results = new ArrayList<>();
        for (Object element : list) {
            results.add(framed(element, scope));
        }
        Object made = Empty.NIL;
        for (int index = results.size() - 1; index >= 0; index--) {
            create();
            made = new Pair(results.get(index), made);
        }
        return made;
    }

    private Object callCompound(Operative operative, Object operands, Scope scope) {
        needFit(matches(operative.tree, operands));
        create();
        Scope inner = new Scope(operative.scope);
        bindTree(operative.tree, operands, inner);
        if (operative.caller instanceof Symbol symbol) {
            bind(inner, symbol.number(), scope);
        }
        return new Tail(operative.body, inner);
    }

    private static boolean matches(Object tree, Object operands) {
        if (tree instanceof Pair pair) {
            return operands instanceof Pair part && matches(pair.car, part.car) && matches(pair.cdr, part.cdr);
        }
        return tree != Empty.NIL || operands == Empty.NIL;
    }

    private void bindTree(Object tree, Object operands, Scope inner) {
        if (tree instanceof Pair pair) {
            bindTree(pair.car, ((Pair) operands).car, inner);
            bindTree(pair.cdr, ((Pair) operands).cdr, inner);
        } else if (tree instanceof Symbol symbol) {
            bind(inner, symbol.number(), operands);
        }
    }

    /** Collects the symbols; a Boolean.FALSE or a null tells that the tree is not one. */
    private static void collect(Object tree, List<Integer> symbols, int[] pairs) {
        if (tree instanceof Pair pair) {
            pairs[0]++;
            needFit(pairs[0] <= 100);
            collect(pair.car, symbols, pairs);
            collect(pair.cdr, symbols, pairs);
        } else if (tree instanceof Symbol symbol) {
            needFit(!symbols.contains(symbol.number()));
            symbols.add(symbol.number());
        } else {
            needFit(tree instanceof Empty);
        }
    }

    private static final int[] COUNTS = {
        3, 3, 2, 2, 3, -1, 1, 0, 0, 0, -1, -1, 2, 2, 2, 2, 1, 1, 1, 1, 2, 1, 1, -1, 2, -1
    };

    private Object callPrimitive(int number, List<Object> list, Object operands, Scope scope) {
        needFit(COUNTS[number] < 0 || COUNTS[number] == list.size());
        return number < 10 ? callSpecial(number, list, scope) : callFunction(number, list, operands);
    }

    private Object callSpecial(int number, List<Object> list, Scope scope) {
        if (number == 0) {
            Object test = framed(list.get(0), scope);
            needFit(test instanceof Boolean);
            return new Tail(test.equals(true) ? list.get(1) : list.get(2), scope);
        }
        if (number == 1 || number == 2) {
            return makeOperative(number == 2, list, scope);
        }
        if (number == 3) {
            needFit(list.get(0) instanceof Symbol);
            bind(scope, ((Symbol) list.get(0)).number(), framed(list.get(1), scope));
            return Empty.INERT;
        }
        if (number == 4) {
            needFit(list.get(1) instanceof Symbol);
            Object place = framed(list.get(0), scope);
            needFit(place instanceof Scope);
            bind((Scope) place, ((Symbol) list.get(1)).number(), framed(list.get(2), scope));
            return Empty.INERT;
        }
        if (number == 5) {
            for (int index = 0; index + 1 < list.size(); index++) {
                framed(list.get(index), scope);
            }
            return list.isEmpty() ? Empty.INERT : new Tail(list.get(list.size() - 1), scope);
        }
        return number == 6 ? list.get(0) : scope;
    }

    private Object makeOperative(boolean isLambda, List<Object> list, Scope scope) {
        List<Integer> symbols = new ArrayList<>();
        collect(list.get(0), symbols, new int[1]);
        Object caller = isLambda ? Empty.INERT : list.get(1);
        if (caller instanceof Symbol symbol) {
            needFit(!symbols.contains(symbol.number()));
        } else {
            needFit(caller == Empty.INERT);
        }
        create();
        Operative made = new Operative(-1, list.get(0), caller, list.get(list.size() - 1), scope);
        if (isLambda) {
            create();
            return new Applicative(made);
        }
        return made;
    }

    private static long inRange(long number) {
        need(Math.abs(number) <= GREATEST, ScopeInterpreter.OVERFLOW);
        return number;
    }

    private static long product(long one, long other) {
        java.math.BigInteger exact = java.math.BigInteger.valueOf(one).multiply(java.math.BigInteger.valueOf(other));
        need(exact.abs().compareTo(java.math.BigInteger.valueOf(GREATEST)) <= 0, ScopeInterpreter.OVERFLOW);
        return exact.longValue();
    }

    private Object callFunction(int number, List<Object> list, Object operands) {
        if (number <= 13) {
            return calculate(number, list);
        }
        Object one = list.isEmpty() ? null : list.get(0);
        switch (number) {
            case 14:
                return same(one, list.get(1));
            case 15:
                create();
                return new Pair(one, list.get(1));
            case 16:
                needFit(one instanceof Pair);
                return ((Pair) one).car;
            case 17:
                needFit(one instanceof Pair);
                return ((Pair) one).cdr;
            case 18:
                return one == Empty.NIL;
            case 19:
                return one instanceof Pair;
            case 20:
                needFit(list.get(1) instanceof Scope);
                return new Tail(one, (Scope) list.get(1));
            case 21:
                needFit(one instanceof Operative || one instanceof Applicative);
                create();
                return new Applicative(one);
            case 22:
                needFit(one instanceof Applicative);
                return ((Applicative) one).underlying;
            case 23:
                needFit(list.isEmpty() || list.size() == 1 && one instanceof Scope);
                create();
                return new Scope((Scope) one);
            default:
                return operands;
        }
    }

    private static Object calculate(int number, List<Object> list) {
        long result = number == 11 ? 1 : 0;
        for (Object operand : list) {
            needFit(operand instanceof Long);
        }
        if (number == 13) {
            return (long) list.get(0) < (long) list.get(1);
        }
        if (number == 12) {
            return inRange((long) list.get(0) - (long) list.get(1));
        }
        for (Object operand : list) {
            result = number == 10 ? inRange(result + (long) operand) : product(result, (long) operand);
        }
        return result;
    }
}
