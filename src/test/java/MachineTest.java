/** Promises 20 to 25: limits of steps, frames and the heap, and the calls around evaluate(). */
public final class MachineTest {
    private static final int BAD_VALUE = ScopeInterpreter.BAD_VALUE;
    private static final int TOO_FEW = ScopeInterpreter.TOO_FEW;
    private static final int WRONG_KIND = ScopeInterpreter.WRONG_KIND;
    private static final int STEP_LIMIT = ScopeInterpreter.STEP_LIMIT;
    private static final int DEPTH_LIMIT = ScopeInterpreter.DEPTH_LIMIT;
    private static final int HEAP_FULL = ScopeInterpreter.HEAP_FULL;
    private static final int UNBOUND = ScopeInterpreter.UNBOUND;
    private static final Check check = new Check();

    public static void main(String[] args) {
        evaluateOnTheStack();
        presentEnvironment();
        limits();
        stepLimit();
        endlessLoop();
        tailCalls();
        depthLimit();
        depthBeforeSteps();
        latestNumbers();
        heapFull();
        heapFullInParts();
        heapFullNotNeeded();
        nestedApplicatives();
        manyFailuresAmongArguments();
        check.finish();
    }

    private static void evaluateOnTheStack() {
        Lisp lisp = new Lisp(check);
        ScopeInterpreter x = lisp.x;
        check.due("evaluate(), empty", x.evaluate(), TOO_FEW);
        x.pushInteger(1);
        check.due("evaluate 1", x.evaluate(), 1);
        check.due("latest(0)", x.latest(0), 1);
        x.drop(1);
        check.due("evaluate(), empty again", x.evaluate(), TOO_FEW);
        check.due("latest(0) stays", x.latest(0), 1);
        check.due("size", x.size(), 0);
        x.pushInteger(9);
        lisp.fails("a", UNBOUND);
        check.due("the value is removed", x.size(), 1);
        check.due("the one below stays", x.value(0), 9);
    }

    private static void presentEnvironment() {
        Lisp lisp = new Lisp(check);
        ScopeInterpreter x = lisp.x;
        check.due("useEnvironment(), empty", x.useEnvironment(), TOO_FEW);
        x.pushInteger(1);
        check.due("useEnvironment(), an integer", x.useEnvironment(), WRONG_KIND);
        check.due("size", x.size(), 1);
        lisp.evaluate("(environment (scope))");
        check.due("useEnvironment()", x.useEnvironment(), 1);
        lisp.run("(define a 5)");
        x.pushEnvironment();
        check.due("the new one is used", x.bindingCount(0), 1);
        check.due("useUser()", x.useUser(), 1);
        check.due("useUser() again", x.useUser(), 0);
        lisp.fails("a", UNBOUND);
        check.due("useEnvironment() again", x.useEnvironment(), 1);
        lisp.givesInteger("a", 5);
        check.due("useUser()", x.useUser(), 1);
        x.pushEnvironment();
        check.due("useEnvironment(), the user's", x.useEnvironment(), 1);
        check.due("useUser(), no change", x.useUser(), 0);
        lisp.evaluate("(environment)");
        x.useEnvironment();
        lisp.fails("(add 1 2)", UNBOUND);
        lisp.givesInteger("5", 5);
    }

    private static void limits() {
        Lisp lisp = new Lisp(check);
        ScopeInterpreter x = lisp.x;
        check.due("setLimit(0)", x.setLimit(0), BAD_VALUE);
        check.due("setLimit(1501)", x.setLimit(1501), BAD_VALUE);
        check.due("setLimit(-1)", x.setLimit(-1), BAD_VALUE);
        check.due("setLimit(max)", x.setLimit(Integer.MAX_VALUE), BAD_VALUE);
        check.due("setLimit(1)", x.setLimit(1), 1000);
        check.due("setLimit(1500)", x.setLimit(1500), 1);
        check.due("setLimit(20)", x.setLimit(20), 1500);
        lisp.run("(add 1 2)");
        lisp.run("(add 1 2)");
        check.due("the limit stays", x.setLimit(20), 20);
    }

    private static void stepLimit() {
        Lisp lisp = new Lisp(check);
        lisp.x.setLimit(4);
        lisp.costs("(add 1 2)", 4, 1, 2);
        lisp.x.setLimit(3);
        lisp.failsAfter("(add 1 2)", STEP_LIMIT, 3, 1, 0);
        lisp.x.setLimit(1);
        lisp.costs("5", 1, 0, 0);
        lisp.failsAfter("(add)", STEP_LIMIT, 1, 1, 0);
        lisp.failsAfter("((add))", STEP_LIMIT, 1, 1, 0);
        lisp.x.setLimit(2);
        lisp.failsAfter("((add))", STEP_LIMIT, 2, 2, 0);
        lisp.costs("(add)", 2, 1, 0);
        lisp.x.setLimit(3);
        lisp.x.pushInteger(0);
        lisp.fails("(begin (define a 1) 2)", STEP_LIMIT);
        lisp.x.setLimit(5);
        lisp.fails("(begin (define a 1) 2)", STEP_LIMIT);
        lisp.givesInteger("a", 1);
    }

    private static void endlessLoop() {
        Lisp lisp = new Lisp(check);
        lisp.run("(define f (vau () #inert (f)))");
        lisp.failsAfter("(f)", STEP_LIMIT, 1000, 1, 500);
        lisp.x.setLimit(1500);
        lisp.failsAfter("(f)", STEP_LIMIT, 1500, 1, 750);
    }

    private static void tailCalls() {
        Lisp lisp = new Lisp(check);
        lisp.x.setLimit(1500);
        lisp.run("(define f (lambda (n) (if (less n 1) n (begin 1 (f (subtract n 1))))))");
        check.due("(f 80)", lisp.evaluate("(f 80)") > 1000);
        check.due("value", lisp.x.value(0), 0);
        check.due("tail calls need no frame", lisp.x.latest(1), 2);
        lisp.run("(define g (lambda (n) (if (less n 1) n (eval (list g (subtract n 1)) (scope)))))");
        check.due("(g 50)", lisp.evaluate("(g 50)") > 0);
        check.due("eval needs no frame", lisp.x.latest(1) <= 3);
        lisp.run("(define h (lambda (n) (if (less n 1) n (apply h (list (subtract n 1))))))");
        check.due("(h 50)", lisp.evaluate("(h 50)") > 0);
        check.due("apply needs no frame", lisp.x.latest(1) <= 3);
    }

    /** Pushes nested combinations of the car alone: (((add))) for 3; each of them needs a frame. */
    private static void pushNested(ScopeInterpreter x, int combinations) {
        x.pushSymbol(10);
        for (int count = 0; count < combinations; count++) {
            x.pushEmpty(false);
            x.makePair();
        }
    }

    private static void depthLimit() {
        ScopeInterpreter x = new ScopeInterpreter();
        pushNested(x, 300);
        check.due("300 frames; then 0 is no combiner", x.evaluate(), ScopeInterpreter.NOT_COMBINER);
        check.due("latest(0)", x.latest(0), 301);
        check.due("latest(1)", x.latest(1), 300);
        pushNested(x, 301);
        check.due("301 frames", x.evaluate(), DEPTH_LIMIT);
        check.due("latest(0)", x.latest(0), 301);
        check.due("latest(1)", x.latest(1), 300);
        Lisp lisp = new Lisp(check);
        lisp.x.setLimit(1500);
        lisp.run("(define f (vau () #inert (begin (f) 1)))");
        lisp.fails("(f)", DEPTH_LIMIT);
        check.due("latest(1)", lisp.x.latest(1), 300);
        lisp.givesInteger("(add 1 2)", 3);
        lisp.run("(define g (lambda (n) (if (less n 1) 0 (add 1 (g (subtract n 1))))))");
        lisp.givesInteger("(g 80)", 80);
        lisp.fails("(begin (define a (f)) 2)", DEPTH_LIMIT);
    }

    private static void depthBeforeSteps() {
        ScopeInterpreter x = new ScopeInterpreter();
        pushNested(x, 301);
        x.setLimit(301);
        check.due("both limits: the frame is put down first", x.evaluate(), DEPTH_LIMIT);
        pushNested(x, 301);
        x.setLimit(300);
        check.due("the limit of steps comes first", x.evaluate(), STEP_LIMIT);
        check.due("latest(0)", x.latest(0), 300);
        check.due("the frame is there before the step", x.latest(1), 300);
    }

    private static void latestNumbers() {
        Lisp lisp = new Lisp(check);
        ScopeInterpreter x = lisp.x;
        check.due("latest(-1)", x.latest(-1), BAD_VALUE);
        check.due("latest(2)", x.latest(2), BAD_VALUE);
        check.due("latest(0)", x.latest(0), 0);
        check.due("latest(1)", x.latest(1), 0);
        lisp.costs("(add (add 1 (add 2)) 3)", 9, 3, 5);
        lisp.costs("5", 1, 0, 0);
        lisp.failsAfter("(add (add a))", UNBOUND, 5, 2, 0);
        check.due("latest(0) stays", x.latest(0), 5);
        x.reset();
        check.due("latest(0) after reset()", x.latest(0), 0);
        check.due("latest(1) after reset()", x.latest(1), 0);
    }

    /** Evaluates a text where the heap has this much room. */
    private static void inRoom(int room, String text, int due, int left) {
        Lisp lisp = new Lisp(check);
        lisp.push(text);
        lisp.leaveRoom(room);
        check.due(text + " with room for " + room, lisp.x.evaluate(), due);
        check.due(text + ": the room that is left", 4000 - lisp.x.heapSize(), left);
        check.due(text + ": size", lisp.x.size(), due > 0 ? 1 : 0);
    }

    private static void heapFull() {
        inRoom(0, "(define a 1)", HEAP_FULL, 0);
        inRoom(1, "(define a 1)", 3, 0);
        inRoom(0, "(set (scope) a 1)", HEAP_FULL, 0);
        inRoom(1, "(set (scope) a 1)", 5, 0);
        inRoom(0, "(vau a b c)", HEAP_FULL, 0);
        inRoom(1, "(vau a b c)", 2, 0);
        inRoom(0, "(environment)", HEAP_FULL, 0);
        inRoom(1, "(environment)", 2, 0);
        inRoom(2, "(cons 1 2)", HEAP_FULL, 0);
        inRoom(3, "(cons 1 2)", 4, 0);
        inRoom(1, "(wrap if)", HEAP_FULL, 0);
        inRoom(2, "(wrap if)", 3, 0);
        inRoom(2, "(apply list ())", HEAP_FULL, 0);
        inRoom(3, "(apply list ())", 4, 0);
    }

    private static void heapFullInParts() {
        inRoom(0, "(lambda a b)", HEAP_FULL, 0);
        inRoom(1, "(lambda a b)", HEAP_FULL, 0);
        inRoom(2, "(lambda a b)", 2, 0);
        inRoom(2, "(list 1 2 3)", HEAP_FULL, 0);
        inRoom(3, "(list 1 2 3)", 5, 0);
        inRoom(4, "(list 1 2 3)", 5, 1);
        inRoom(3, "((vau (a b) c 1) 1 2)", HEAP_FULL, 0);
        inRoom(4, "((vau (a b) c 1) 1 2)", HEAP_FULL, 0);
        inRoom(5, "((vau (a b) c 1) 1 2)", 4, 0);
        inRoom(4, "((vau (a b) #inert 1) 1 2)", 4, 0);
        inRoom(2, "(add (begin (define a 1) 2) (define b 3))", HEAP_FULL, 0);
    }

    private static void heapFullNotNeeded() {
        inRoom(0, "(begin)", 2, 0);
        inRoom(0, "(quote a)", 2, 0);
        inRoom(0, "(add)", 2, 0);
        inRoom(0, "(list)", 2, 0);
        inRoom(0, "(define a b)", UNBOUND, 0);
        inRoom(0, "(vau 1 2 3)", ScopeInterpreter.BAD_OPERANDS, 0);
        inRoom(1, "((vau (a) b c))", ScopeInterpreter.BAD_OPERANDS, 0);
        inRoom(1, "(begin (define a 1) (define a 2) a)", 9, 0);
        inRoom(1, "(add #t)", ScopeInterpreter.BAD_OPERANDS, 0);
    }

    /** Applicatives around applicatives need no steps where there are no operands. */
    private static void nestedApplicatives() {
        Lisp lisp = new Lisp(check);
        lisp.x.setLimit(1500);
        lisp.run("(define w add)");
        for (int count = 0; count < 100; count++) {
            lisp.run("(define w (wrap w))");
        }
        lisp.costs("(w)", 2, 1, 0);
        lisp.givesInteger("(w)", 0);
        lisp.costs("(begin (w) (w) (w))", 8, 2, 0);
        lisp.givesInteger("(w 5)", 5);
        check.due("steps of (w 5)", lisp.x.latest(0), 2 + 101);
    }

    /** What failed evaluations leave unfinished must not be in the way of later ones. */
    private static void manyFailuresAmongArguments() {
        Lisp lisp = new Lisp(check);
        lisp.push("(list 1 2 3 4 5 6 7 8 9 10 11 12 13 14 15 (add 1 2 3 4 5 6 7 8 9 10 11 12 13 14 15 z))");
        for (int count = 0; count < 200; count++) {
            lisp.x.pushCopy(0);
            check.due("failure " + count, lisp.x.evaluate(), UNBOUND);
            check.due("latest(1)", lisp.x.latest(1), 2);
        }
        lisp.givesList("(list 1 (add 2) 3)", 1, 2, 3);
        check.due("latest(1)", lisp.x.latest(1), 2);
    }
}
