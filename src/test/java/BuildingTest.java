/** Promises 10, 11, 13 and 25: pairs, lists, reset and the heap's size. */
public final class BuildingTest {
    private static final int BAD_VALUE = ScopeInterpreter.BAD_VALUE;
    private static final int TOO_FEW = ScopeInterpreter.TOO_FEW;
    private static final int STACK_FULL = ScopeInterpreter.STACK_FULL;
    private static final int HEAP_FULL = ScopeInterpreter.HEAP_FULL;
    private static final Check check = new Check();

    public static void main(String[] args) {
        pairs();
        lists();
        listOfForty();
        fullHeap();
        resets();
        groundAfterReset();
        heapSizes();
        check.finish();
    }

    private static void pairs() {
        ScopeInterpreter x = new ScopeInterpreter();
        check.due("makePair(), empty", x.makePair(), TOO_FEW);
        x.pushInteger(1);
        check.due("makePair(), one", x.makePair(), TOO_FEW);
        x.pushInteger(2);
        x.pushInteger(3);
        check.due("makePair()", x.makePair(), 2);
        check.due("kind", x.kind(0), 4);
        check.due("heapSize", x.heapSize(), 1);
        x.pushPart(0, 0);
        check.due("the car is the one below", x.value(0), 2);
        x.pushPart(1, 1);
        check.due("the cdr is the uppermost", x.value(0), 3);
        check.due("the one below stays", x.value(3), 1);
        ScopeInterpreter y = new ScopeInterpreter();
        Lisp.fillStack(y);
        check.due("makePair(), full stack", y.makePair(), 39);
    }

    private static void lists() {
        ScopeInterpreter x = new ScopeInterpreter();
        check.due("makeList(-1)", x.makeList(-1), BAD_VALUE);
        check.due("makeList(41)", x.makeList(41), BAD_VALUE);
        check.due("makeList(1), empty", x.makeList(1), TOO_FEW);
        check.due("makeList(0)", x.makeList(0), 1);
        check.due("kind of ()", x.kind(0), 3);
        check.due("heapSize", x.heapSize(), 0);
        x.pushInteger(7);
        x.pushInteger(8);
        x.pushInteger(9);
        check.due("makeList(5)", x.makeList(5), TOO_FEW);
        check.due("makeList(2)", x.makeList(2), 3);
        check.due("length", x.length(0), 2);
        check.due("heapSize", x.heapSize(), 2);
        x.pushPart(0, 0);
        check.due("the first element is the lowest value", x.value(0), 8);
        x.pushPart(1, 1);
        x.pushPart(0, 0);
        check.due("the second element", x.value(0), 9);
        check.due("the value below stays", x.value(4), 7);
    }

    private static void listOfForty() {
        ScopeInterpreter x = new ScopeInterpreter();
        for (int number = 0; number < 40; number++) {
            x.pushInteger(number);
        }
        check.due("makeList(0), full", x.makeList(0), STACK_FULL);
        check.due("makeList(40)", x.makeList(40), 1);
        check.due("length", x.length(0), 40);
        check.due("heapSize", x.heapSize(), 40);
        for (int number = 0; number < 38; number++) {
            x.pushPart(0, 0);
            check.due("element", x.value(0), number);
            x.drop(1);
            x.pushPart(0, 1);
        }
        x.pushPart(0, 0);
        check.due("element", x.value(0), 38);
    }

    private static void fullHeap() {
        Lisp lisp = new Lisp(check);
        ScopeInterpreter x = lisp.x;
        lisp.leaveRoom(3);
        for (int number = 0; number < 5; number++) {
            x.pushInteger(number);
        }
        check.due("makeList(4), room for 3", x.makeList(4), HEAP_FULL);
        check.due("size", x.size(), 5);
        check.due("heapSize", x.heapSize(), 3997);
        check.due("makeList(6), room for 3", x.makeList(6), TOO_FEW);
        check.due("makeList(3), room for 3", x.makeList(3), 3);
        check.due("heapSize", x.heapSize(), 4000);
        check.due("makePair(), full", x.makePair(), HEAP_FULL);
        check.due("makeList(1), full", x.makeList(1), HEAP_FULL);
        check.due("makeList(0), full", x.makeList(0), 4);
        check.due("size", x.size(), 4);
        check.due("value", x.value(3), 0);
        x.drop(3);
        check.due("makePair(), full, one value", x.makePair(), TOO_FEW);
        Lisp.fillStack(x);
        check.due("makeList(0), full heap and stack", x.makeList(0), STACK_FULL);
        check.due("makeList(1), full heap and stack", x.makeList(1), HEAP_FULL);
        check.due("reset()", x.reset(), 4000);
    }

    private static void resets() {
        Lisp lisp = new Lisp(check);
        ScopeInterpreter x = lisp.x;
        check.due("reset(), new", x.reset(), 0);
        lisp.run("(define a (lambda (n) (add n 1)))");
        lisp.run("(define b (environment))");
        lisp.evaluate("b");
        x.useEnvironment();
        x.setLimit(77);
        x.pushInteger(1);
        int objects = x.heapSize();
        check.due("reset()", x.reset(), objects);
        check.due("size", x.size(), 0);
        check.due("heapSize", x.heapSize(), 0);
        check.due("latest(0)", x.latest(0), 0);
        check.due("latest(1)", x.latest(1), 0);
        check.due("useUser()", x.useUser(), 0);
        check.due("setLimit()", x.setLimit(5), 1000);
        check.due("pushEnvironment()", x.pushEnvironment(), 1);
        check.due("bindingCount", x.bindingCount(0), 0);
        check.due("pushBinding(0, a)", x.pushBinding(0, 40), ScopeInterpreter.UNBOUND);
        check.due("reset() again", x.reset(), 0);
    }

    private static void groundAfterReset() {
        Lisp lisp = new Lisp(check);
        ScopeInterpreter x = lisp.x;
        x.pushEnvironment();
        x.pushPart(0, 0);
        x.useEnvironment();
        lisp.run("(define add multiply)");
        lisp.run("(define z 9)");
        lisp.givesInteger("(add 3 4)", 12);
        x.pushEnvironment();
        check.due("bindings of ground", x.bindingCount(0), 25);
        x.reset();
        lisp.givesInteger("(add 3 4)", 7);
        lisp.fails("z", ScopeInterpreter.UNBOUND);
        x.pushEnvironment();
        x.pushPart(0, 0);
        check.due("bindings of ground", x.bindingCount(0), 24);
    }

    private static void heapSizes() {
        Lisp lisp = new Lisp(check);
        ScopeInterpreter x = lisp.x;
        lisp.costs("(define a 1)", 3, 1, 1);
        lisp.costs("(define a 2)", 3, 1, 0);
        lisp.costs("(environment)", 2, 1, 1);
        lisp.costs("(vau a b c)", 2, 1, 1);
        lisp.costs("(lambda a b)", 2, 1, 2);
        lisp.costs("(wrap if)", 3, 1, 2);
        lisp.costs("(cons 1 2)", 4, 1, 3);
        lisp.costs("((vau (a . b) c 1) 1 2)", 4, 2, 5);
        lisp.costs("((vau (a . b) #inert 1) 1 2)", 4, 2, 4);
        lisp.costs("(apply list ())", 4, 1, 3);
        x.pushEnvironment();
        x.pushPart(0, 0);
        x.useEnvironment();
        lisp.costs("(define z 1)", 3, 1, 1);
        lisp.costs("(define add 1)", 3, 1, 0);
    }
}
