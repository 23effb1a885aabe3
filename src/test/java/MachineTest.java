/** Promises 20 to 24: limits of steps and frames, and the calls around evaluate(). */
public final class MachineTest {
    private static final int BAD_VALUE = ScopeInterpreter.BAD_VALUE;
    private static final int TOO_FEW = ScopeInterpreter.TOO_FEW;
    private static final int WRONG_KIND = ScopeInterpreter.WRONG_KIND;
    private static final int STEP_LIMIT = ScopeInterpreter.STEP_LIMIT;
    private static final int DEPTH_LIMIT = ScopeInterpreter.DEPTH_LIMIT;
    private static final int UNBOUND = ScopeInterpreter.UNBOUND;
    private static final Check check = new Check();

    public static void main(String[] args) {
        evaluateOnTheStack();
        presentEnvironment();
        limits();
        stepLimit();
        endlessLoop();
        tailCalls();
        depthLimit();
        latestNumbers();
        check.finish();
    }

    private static void evaluateOnTheStack() {
        Lisp lisp = new Lisp(check);
        ScopeInterpreter x = lisp.x;
        check.due("evaluate(), empty", x.evaluate(), TOO_FEW);
        x.pushInteger(1);
        check.due("evaluate 1", x.evaluate(), 1);
        check.due("latest(0)", x.latest(0), 1);
        x.drop(1);
        check.due("evaluate(), empty again", x.evaluate(), TOO_FEW);
        check.due("latest(0) stays", x.latest(0), 1);
        check.due("size", x.size(), 0);
        x.pushInteger(9);
        lisp.fails("a", UNBOUND);
        check.due("the value is removed", x.size(), 1);
        check.due("the one below stays", x.value(0), 9);
    }

    private static void presentEnvironment() {
        Lisp lisp = new Lisp(check);
        ScopeInterpreter x = lisp.x;
        check.due("useEnvironment(), empty", x.useEnvironment(), TOO_FEW);
        x.pushInteger(1);
        check.due("useEnvironment(), an integer", x.useEnvironment(), WRONG_KIND);
        check.due("size", x.size(), 1);
        lisp.evaluate("(environment (scope))");
        check.due("useEnvironment()", x.useEnvironment(), 1);
        lisp.run("(define a 5)");
        x.pushEnvironment();
        check.due("the new one is used", x.bindingCount(0), 1);
        check.due("useUser()", x.useUser(), 1);
        check.due("useUser() again", x.useUser(), 0);
        lisp.fails("a", UNBOUND);
        check.due("useEnvironment() again", x.useEnvironment(), 1);
        lisp.givesInteger("a", 5);
        check.due("useUser()", x.useUser(), 1);
        x.pushEnvironment();
        check.due("useEnvironment(), the user's", x.useEnvironment(), 1);
        check.due("useUser(), no change", x.useUser(), 0);
        lisp.evaluate("(environment)");
        x.useEnvironment();
        lisp.fails("(add 1 2)", UNBOUND);
        lisp.givesInteger("5", 5);
    }

    private static void limits() {
        Lisp lisp = new Lisp(check);
        ScopeInterpreter x = lisp.x;
        check.due("setLimit(0)", x.setLimit(0), BAD_VALUE);
        check.due("setLimit(1501)", x.setLimit(1501), BAD_VALUE);
        check.due("setLimit(-1)", x.setLimit(-1), BAD_VALUE);
        check.due("setLimit(max)", x.setLimit(Integer.MAX_VALUE), BAD_VALUE);
        check.due("setLimit(1)", x.setLimit(1), 1000);
        check.due("setLimit(1500)", x.setLimit(1500), 1);
        check.due("setLimit(20)", x.setLimit(20), 1500);
        lisp.run("(add 1 2)");
        lisp.run("(add 1 2)");
        check.due("the limit stays", x.setLimit(20), 20);
    }

    private static void stepLimit() {
        Lisp lisp = new Lisp(check);
        lisp.x.setLimit(4);
        lisp.costs("(add 1 2)", 4, 1, 2);
        lisp.x.setLimit(3);
        lisp.failsAfter("(add 1 2)", STEP_LIMIT, 3, 1, 0);
        lisp.x.setLimit(1);
        lisp.costs("5", 1, 0, 0);
        lisp.failsAfter("(add)", STEP_LIMIT, 1, 1, 0);
        lisp.failsAfter("((add))", STEP_LIMIT, 1, 1, 0);
        lisp.x.setLimit(2);
        lisp.failsAfter("((add))", STEP_LIMIT, 2, 2, 0);
        lisp.costs("(add)", 2, 1, 0);
        lisp.x.setLimit(3);
        lisp.x.pushInteger(0);
        lisp.fails("(begin (define a 1) 2)", STEP_LIMIT);
        lisp.x.setLimit(5);
        lisp.fails("(begin (define a 1) 2)", STEP_LIMIT);
        lisp.givesInteger("a", 1);
    }

    private static void endlessLoop() {
        Lisp lisp = new Lisp(check);
        lisp.run("(define f (vau () #inert (f)))");
        lisp.failsAfter("(f)", STEP_LIMIT, 1000, 1, 500);
        lisp.x.setLimit(1500);
        lisp.failsAfter("(f)", STEP_LIMIT, 1500, 1, 750);
    }

    private static void tailCalls() {
        Lisp lisp = new Lisp(check);
        lisp.x.setLimit(1500);
        lisp.run("(define f (lambda (n) (if (less n 1) n (begin 1 (f (subtract n 1))))))");
        check.due("(f 80)", lisp.evaluate("(f 80)") > 1000);
        check.due("value", lisp.x.value(0), 0);
        check.due("tail calls need no frame", lisp.x.latest(1), 2);
        lisp.run("(define g (lambda (n) (if (less n 1) n (eval (list g (subtract n 1)) (scope)))))");
        check.due("(g 50)", lisp.evaluate("(g 50)") > 0);
        check.due("eval needs no frame", lisp.x.latest(1) <= 3);
        lisp.run("(define h (lambda (n) (if (less n 1) n (apply h (list (subtract n 1))))))");
        check.due("(h 50)", lisp.evaluate("(h 50)") > 0);
        check.due("apply needs no frame", lisp.x.latest(1) <= 3);
    }

    private static void depthLimit() {
        Lisp lisp = new Lisp(check);
        lisp.x.setLimit(1500);
        lisp.run("(define f (vau () #inert (begin (f) 1)))");
        lisp.fails("(f)", DEPTH_LIMIT);
        check.due("latest(1)", lisp.x.latest(1), 300);
        lisp.givesInteger("(add 1 2)", 3);
        lisp.run("(define g (lambda (n) (if (less n 1) 0 (add 1 (g (subtract n 1))))))");
        lisp.givesInteger("(g 80)", 80);
        lisp.fails("(begin (define a (f)) 2)", DEPTH_LIMIT);
    }

    private static void latestNumbers() {
        Lisp lisp = new Lisp(check);
        ScopeInterpreter x = lisp.x;
        check.due("latest(-1)", x.latest(-1), BAD_VALUE);
        check.due("latest(2)", x.latest(2), BAD_VALUE);
        check.due("latest(0)", x.latest(0), 0);
        check.due("latest(1)", x.latest(1), 0);
        lisp.costs("(add (add 1 (add 2)) 3)", 9, 3, 5);
        lisp.costs("5", 1, 0, 0);
        lisp.failsAfter("(add (add a))", UNBOUND, 5, 2, 0);
        check.due("latest(0) stays", x.latest(0), 5);
        x.reset();
        check.due("latest(0) after reset()", x.latest(0), 0);
        check.due("latest(1) after reset()", x.latest(1), 0);
    }
}
