/** Promises 1 to 9, 12 and 14: a new object, what is pushed, drop and size. */
public final class StackTest {
    private static final int BAD_VALUE = ScopeInterpreter.BAD_VALUE;
    private static final int TOO_FEW = ScopeInterpreter.TOO_FEW;
    private static final int STACK_FULL = ScopeInterpreter.STACK_FULL;
    private static final int WRONG_KIND = ScopeInterpreter.WRONG_KIND;
    private static final int UNBOUND = ScopeInterpreter.UNBOUND;
    private static final int NONE = ScopeInterpreter.NONE;
    private static final long GREATEST = 1000000000000000L;
    private static final Check check = new Check();

    public static void main(String[] args) {
        newObject();
        integers();
        booleansSymbolsAndEmpties();
        environments();
        copies();
        partsOfPairs();
        partsOfCombinersAndEnvironments();
        partsWithFullStack();
        bindings();
        bindingsWithFullStack();
        drops();
        fullStack();
        check.finish();
    }

    private static ScopeInterpreter filled() {
        ScopeInterpreter x = new ScopeInterpreter();
        for (int count = 1; count <= 40; count++) {
            check.due("push number " + count, x.pushInteger(count), count);
        }
        return x;
    }

    private static void newObject() {
        ScopeInterpreter x = new ScopeInterpreter();
        check.due("new: size()", x.size(), 0);
        check.due("new: heapSize()", x.heapSize(), 0);
        check.due("new: latest(0)", x.latest(0), 0);
        check.due("new: latest(1)", x.latest(1), 0);
        check.due("new: useUser()", x.useUser(), 0);
        check.due("new: pushEnvironment()", x.pushEnvironment(), 1);
        check.due("new: bindingCount(0)", x.bindingCount(0), 0);
        check.due("new: setLimit(1000)", x.setLimit(1000), 1000);
        check.due("new: pushPart(0, 0)", x.pushPart(0, 0), 2);
        check.due("new: bindingCount of ground", x.bindingCount(0), 24);
        for (int symbol = 0; symbol < 100; symbol++) {
            boolean isBound = symbol <= 7 || symbol >= 10 && symbol <= 25;
            check.due("new: pushBinding(1, " + symbol + ")", x.pushBinding(1, symbol), isBound ? 3 : UNBOUND);
            if (isBound) {
                check.due("new: kind of " + symbol, x.kind(0), symbol <= 7 ? 5 : 6);
                x.drop(1);
            }
        }
    }

    private static void integers() {
        ScopeInterpreter x = new ScopeInterpreter();
        long[] good = {0, 1, -1, 15, 16, -16, 1L << 32, GREATEST, -GREATEST};
        for (int index = 0; index < good.length; index++) {
            check.due("pushInteger(" + good[index] + ")", x.pushInteger(good[index]), index + 1);
            check.due("kind(0)", x.kind(0), 0);
            check.due("value(0)", x.value(0), good[index]);
        }
        long[] bad = {GREATEST + 1, -GREATEST - 1, Long.MAX_VALUE, Long.MIN_VALUE, 1L << 60};
        for (long number : bad) {
            check.due("pushInteger(" + number + ")", x.pushInteger(number), BAD_VALUE);
        }
        check.due("size after bad integers", x.size(), good.length);
    }

    private static void booleansSymbolsAndEmpties() {
        ScopeInterpreter x = new ScopeInterpreter();
        check.due("pushBoolean(false)", x.pushBoolean(false), 1);
        check.due("kind", x.kind(0), 1);
        check.due("value", x.value(0), 0);
        check.due("pushBoolean(true)", x.pushBoolean(true), 2);
        check.due("kind", x.kind(0), 1);
        check.due("value", x.value(0), 1);
        check.due("pushSymbol(0)", x.pushSymbol(0), 3);
        check.due("kind", x.kind(0), 2);
        check.due("value", x.value(0), 0);
        check.due("pushSymbol(99)", x.pushSymbol(99), 4);
        check.due("value", x.value(0), 99);
        int[] bad = {-1, 100, Integer.MAX_VALUE, Integer.MIN_VALUE};
        for (int symbol : bad) {
            check.due("pushSymbol(" + symbol + ")", x.pushSymbol(symbol), BAD_VALUE);
        }
        check.due("pushEmpty(false)", x.pushEmpty(false), 5);
        check.due("kind", x.kind(0), 3);
        check.due("pushEmpty(true)", x.pushEmpty(true), 6);
        check.due("kind", x.kind(0), 8);
        check.due("size", x.size(), 6);
    }

    private static void environments() {
        Lisp lisp = new Lisp(check);
        ScopeInterpreter x = lisp.x;
        check.due("pushEnvironment()", x.pushEnvironment(), 1);
        check.due("kind", x.kind(0), 7);
        check.due("evaluate (scope)", lisp.evaluate("(scope)"), 2);
        check.due("the user environment is pushed", x.areSame(0, 1), 1);
        check.due("evaluate (environment)", lisp.evaluate("(environment)"), 2);
        check.due("useEnvironment()", x.useEnvironment(), 2);
        check.due("pushEnvironment()", x.pushEnvironment(), 3);
        check.due("the present environment is another", x.areSame(0, 1), 0);
        check.due("its bindings", x.bindingCount(0), 0);
        check.due("objects", x.heapSize(), 3);
    }

    private static void copies() {
        Lisp lisp = new Lisp(check);
        ScopeInterpreter x = lisp.x;
        check.due("pushCopy(0), empty", x.pushCopy(0), TOO_FEW);
        check.due("pushCopy(-1), empty", x.pushCopy(-1), BAD_VALUE);
        lisp.push("(1 2)");
        x.pushInteger(5);
        check.due("pushCopy(1)", x.pushCopy(1), 3);
        check.due("the copy is the same object", x.areSame(0, 2), 1);
        check.due("objects", x.heapSize(), 2);
        check.due("pushCopy(0)", x.pushCopy(0), 4);
        check.due("pushCopy(4)", x.pushCopy(4), TOO_FEW);
        check.due("pushCopy(3)", x.pushCopy(3), 5);
        check.due("pushCopy(max)", x.pushCopy(Integer.MAX_VALUE), TOO_FEW);
        check.due("pushCopy(min)", x.pushCopy(Integer.MIN_VALUE), BAD_VALUE);
        check.due("size", x.size(), 5);
    }

    private static void partsOfPairs() {
        Lisp lisp = new Lisp(check);
        ScopeInterpreter x = lisp.x;
        check.due("pushPart(0, 0), empty", x.pushPart(0, 0), TOO_FEW);
        check.due("pushPart(0, 2), empty", x.pushPart(0, 2), BAD_VALUE);
        check.due("pushPart(-1, 0), empty", x.pushPart(-1, 0), BAD_VALUE);
        lisp.push("(1 . 2)");
        check.due("car", x.pushPart(0, 0), 2);
        check.due("value of the car", x.value(0), 1);
        check.due("cdr", x.pushPart(1, 1), 3);
        check.due("value of the cdr", x.value(0), 2);
        check.due("pushPart(2, 2)", x.pushPart(2, 2), BAD_VALUE);
        check.due("pushPart(2, -1)", x.pushPart(2, -1), BAD_VALUE);
        check.due("pushPart(3, 0)", x.pushPart(3, 0), TOO_FEW);
        check.due("pushPart of an integer", x.pushPart(0, 0), WRONG_KIND);
        String[] withoutParts = {"#t", "s50", "()", "#inert"};
        for (String text : withoutParts) {
            lisp.push(text);
            check.due("pushPart(0, 0) of " + text, x.pushPart(0, 0), WRONG_KIND);
            check.due("pushPart(0, 1) of " + text, x.pushPart(0, 1), WRONG_KIND);
            x.drop(1);
        }
        check.due("size", x.size(), 3);
    }

    private static void partsOfCombinersAndEnvironments() {
        Lisp lisp = new Lisp(check);
        ScopeInterpreter x = lisp.x;
        lisp.evaluate("if");
        check.due("part of a primitive operative", x.pushPart(0, 0), WRONG_KIND);
        lisp.evaluate("(vau a b c)");
        check.due("part of a compound operative", x.pushPart(0, 0), WRONG_KIND);
        check.due("cdr of a compound operative", x.pushPart(0, 1), WRONG_KIND);
        lisp.evaluate("add");
        check.due("underlying of add", x.pushPart(0, 0), 4);
        check.due("kind", x.kind(0), 5);
        check.due("cdr of add", x.pushPart(1, 1), WRONG_KIND);
        lisp.evaluate("(unwrap add)");
        check.due("underlying of add is always the same", x.areSame(0, 1), 1);
        lisp.evaluate("(wrap add)");
        check.due("underlying of a wrapped applicative", x.pushPart(0, 0), 7);
        check.due("it is the applicative", x.kind(0), 6);
        check.due("it is add", x.areSame(0, 4), 1);
        x.reset();
        x.pushEnvironment();
        check.due("parent of user", x.pushPart(0, 0), 2);
        check.due("parent of ground", x.pushPart(0, 0), NONE);
        check.due("cdr of an environment", x.pushPart(0, 1), WRONG_KIND);
        check.due("size", x.size(), 2);
        lisp.evaluate("(environment)");
        check.due("parent of an empty environment", x.pushPart(0, 0), NONE);
        lisp.evaluate("(environment (scope))");
        check.due("parent of a child", x.pushPart(0, 0), 5);
        check.due("it is the user environment", x.areSame(0, 4), 1);
    }

    private static void partsWithFullStack() {
        Lisp lisp = new Lisp(check);
        ScopeInterpreter x = lisp.x;
        lisp.evaluate("(environment)");
        lisp.push("(1)");
        Lisp.fillStack(x);
        check.due("car, full", x.pushPart(38, 0), STACK_FULL);
        check.due("no such part, full", x.pushPart(0, 0), WRONG_KIND);
        check.due("no parent, full", x.pushPart(39, 0), STACK_FULL);
        check.due("cdr of an environment, full", x.pushPart(39, 1), WRONG_KIND);
        check.due("TOO_FEW, full", x.pushPart(40, 0), TOO_FEW);
        check.due("size", x.size(), 40);
        x.drop(1);
        check.due("no parent, not full", x.pushPart(38, 0), NONE);
        check.due("size", x.size(), 39);
    }

    private static void bindings() {
        Lisp lisp = new Lisp(check);
        ScopeInterpreter x = lisp.x;
        check.due("pushBinding(0, 1), empty", x.pushBinding(0, 1), TOO_FEW);
        check.due("pushBinding(0, 100), empty", x.pushBinding(0, 100), BAD_VALUE);
        check.due("pushBinding(0, -1), empty", x.pushBinding(0, -1), BAD_VALUE);
        check.due("pushBinding(-1, 1), empty", x.pushBinding(-1, 1), BAD_VALUE);
        x.pushInteger(1);
        check.due("pushBinding of an integer", x.pushBinding(0, 1), WRONG_KIND);
        lisp.run("(define a 5)");
        lisp.run("(define add 6)");
        x.pushEnvironment();
        check.due("pushBinding(0, a)", x.pushBinding(0, 40), 3);
        check.due("value", x.value(0), 5);
        check.due("pushBinding(1, add)", x.pushBinding(1, 10), 4);
        check.due("own before the parent's", x.value(0), 6);
        check.due("pushBinding(2, b)", x.pushBinding(2, 41), UNBOUND);
        check.due("pushPart", x.pushPart(2, 0), 5);
        check.due("ground has no a", x.pushBinding(0, 40), UNBOUND);
        check.due("ground has add", x.pushBinding(0, 10), 6);
        check.due("kind", x.kind(0), 6);
        lisp.evaluate("(environment (environment (scope)))");
        check.due("from the grandparent", x.pushBinding(0, 40), 8);
        check.due("value", x.value(0), 5);
    }

    private static void bindingsWithFullStack() {
        ScopeInterpreter x = new ScopeInterpreter();
        x.pushEnvironment();
        Lisp.fillStack(x);
        check.due("bound, full", x.pushBinding(39, 1), STACK_FULL);
        check.due("unbound, full", x.pushBinding(39, 50), UNBOUND);
        check.due("wrong kind, full", x.pushBinding(0, 50), WRONG_KIND);
        check.due("too few, full", x.pushBinding(40, 50), TOO_FEW);
        check.due("size", x.size(), 40);
    }

    private static void drops() {
        ScopeInterpreter x = filled();
        check.due("drop(-1)", x.drop(-1), BAD_VALUE);
        check.due("drop(41)", x.drop(41), BAD_VALUE);
        check.due("drop(0)", x.drop(0), 40);
        check.due("drop(3)", x.drop(3), 37);
        check.due("value", x.value(0), 37);
        check.due("drop(38)", x.drop(38), TOO_FEW);
        check.due("drop(40)", x.drop(40), TOO_FEW);
        check.due("size", x.size(), 37);
        check.due("drop(37)", x.drop(37), 0);
        check.due("drop(1)", x.drop(1), TOO_FEW);
        check.due("drop(0), empty", x.drop(0), 0);
        check.due("drop(40) of 40", filled().drop(40), 0);
    }

    private static void fullStack() {
        ScopeInterpreter x = filled();
        check.due("pushInteger, full", x.pushInteger(1), STACK_FULL);
        check.due("pushInteger, bad and full", x.pushInteger(GREATEST + 1), BAD_VALUE);
        check.due("pushBoolean, full", x.pushBoolean(true), STACK_FULL);
        check.due("pushSymbol, full", x.pushSymbol(1), STACK_FULL);
        check.due("pushSymbol, bad and full", x.pushSymbol(100), BAD_VALUE);
        check.due("pushEmpty, full", x.pushEmpty(true), STACK_FULL);
        check.due("pushEnvironment, full", x.pushEnvironment(), STACK_FULL);
        check.due("pushCopy, full", x.pushCopy(39), STACK_FULL);
        check.due("pushCopy, too deep and full", x.pushCopy(40), TOO_FEW);
        check.due("pushCopy, bad and full", x.pushCopy(-1), BAD_VALUE);
        check.due("size", x.size(), 40);
        check.due("value", x.value(0), 40);
        check.due("evaluate, full", x.evaluate(), 1);
        check.due("size", x.size(), 40);
    }
}
