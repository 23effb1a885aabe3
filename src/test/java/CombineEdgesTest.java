/** The edges of the evaluation of expressions and combinations, and of compound operatives. */
public final class CombineEdgesTest {
    private static final int UNBOUND = ScopeInterpreter.UNBOUND;
    private static final int NOT_COMBINER = ScopeInterpreter.NOT_COMBINER;
    private static final int BAD_OPERANDS = ScopeInterpreter.BAD_OPERANDS;
    private static final Check check = new Check();
    private static final Twin twin = new Twin(check);

    public static void main(String[] args) {
        otherValuesAreTheirOwn();
        symbolIsLookedUp();
        operatorIsEvaluated();
        otherValuesDoNotCombine();
        applicativeNeedsList();
        operandsFromTheFirstOn();
        operandsInTheSameEnvironment();
        newListOfResults();
        underlyingInTheSameEnvironment();
        manyOperands();
        nilMatchesOnlyNil();
        pairMatchesOnlyPairs();
        symbolMatchesEverything();
        inertMatchesEverything();
        partsAreMatched();
        noMatchCreatesNothing();
        parentIsScope();
        environmentParameter();
        bodyInNewEnvironment();
        parametersHideOuterBindings();
        check.finish();
    }

    // ---- expressions

    /** "All other values are their own values." */
    private static void otherValuesAreTheirOwn() {
        String[] texts = {
            "5", "0", "-1000000000000000", "#t", "#f", "()", "#inert", "@if", "@add", "#env"
        };
        for (String text : texts) {
            Lisp lisp = new Lisp(check);
            lisp.push(text);
            lisp.x.pushCopy(0);
            check.due("evaluate " + text, lisp.x.evaluate(), 1);
            check.due(text + " is its own value", lisp.x.areSame(0, 1), 1);
            check.due(text + ": latest(0)", lisp.x.latest(0), 1);
            check.due(text + ": latest(1)", lisp.x.latest(1), 0);
            check.due(text + ": heapSize()", lisp.x.heapSize(), 0);
        }
        String[] made = {"(vau a b c)", "(lambda a b)", "(environment)"};
        for (String text : made) {
            Lisp lisp = new Lisp(check);
            lisp.evaluate(text);
            lisp.x.pushCopy(0);
            check.due("evaluate what " + text + " gives", lisp.x.evaluate(), 1);
            check.due("what " + text + " gives is its own value", lisp.x.areSame(0, 1), 1);
        }
    }

    private static void symbolIsLookedUp() {
        Lisp lisp = new Lisp(check);
        for (String text : Lisp.OF_KIND) {
            lisp.run("(define b (quote " + text + "))");
            lisp.evaluate("b");
            lisp.push("#env");
            lisp.x.pushBinding(0, Lisp.symbol("b"));
            check.due("the symbol's value is not evaluated: " + text, lisp.x.areSame(0, 2), 1);
            lisp.x.drop(3);
        }
        twin.fails("z", UNBOUND, 1, 0, 0);
        twin.fails("s99", UNBOUND, 1, 0, 0);
    }

    // ---- combinations

    private static void operatorIsEvaluated() {
        Lisp lisp = new Lisp(check);
        lisp.costs("(@begin)", 2, 1, 0);
        lisp.costs("((begin begin))", 4, 2, 0);
        lisp.costs("((quote @begin))", 3, 2, 0);
        twin.fails("(z 1)", UNBOUND, 2, 1, 0);
        twin.fails("((z))", UNBOUND, 3, 2, 0);
    }

    private static void otherValuesDoNotCombine() {
        for (int kind = 0; kind < Lisp.OF_KIND.length; kind++) {
            if (kind != Lisp.OPERATIVE && kind != Lisp.APPLICATIVE) {
                String quoted = "(quote " + Lisp.OF_KIND[kind] + ")";
                twin.fails("(" + quoted + ")", NOT_COMBINER, 3, 2, 0);
                twin.fails("(" + quoted + " z)", NOT_COMBINER, 3, 2, 0);
                twin.fails("(" + quoted + " . 6)", NOT_COMBINER, 3, 2, 0);
            }
        }
        twin.fails("(5)", NOT_COMBINER, 2, 1, 0);
        twin.fails("(())", NOT_COMBINER, 2, 1, 0);
        twin.fails("(#env)", NOT_COMBINER, 2, 1, 0);
        twin.fails("(#inert . 5)", NOT_COMBINER, 2, 1, 0);
    }

    /** "if the operands are not a list, the evaluation fails with BAD_OPERANDS" */
    private static void applicativeNeedsList() {
        for (int kind = 0; kind < Lisp.OF_KIND.length; kind++) {
            if (kind != Lisp.NIL && kind != Lisp.PAIR) {
                String end = " . " + Lisp.OF_KIND[kind] + ")";
                twin.fails("(list" + end, BAD_OPERANDS, 2, 1, 0);
                twin.fails("(list 1" + end, BAD_OPERANDS, 2, 1, 0);
                twin.fails("(list z 2" + end, BAD_OPERANDS, 2, 1, 0);
            }
        }
        Twin.Setup all = lisp -> lisp.run("(define f (lambda b b))");
        twin.fails(all, "(f . 5)", BAD_OPERANDS, 2, 1, 0);
        twin.fails(all, "(f (define a 1) . 5)", BAD_OPERANDS, 2, 1, 0);
        twin.fails("((wrap begin) . 5)", BAD_OPERANDS, 4, 2, 2);
        Lisp lisp = new Lisp(check);
        lisp.costs("(list)", 2, 1, 0);
        lisp.costs("(list . (1 2))", 4, 1, 2);
    }

    private static void operandsFromTheFirstOn() {
        Lisp lisp = new Lisp(check);
        lisp.run("(define a 1)");
        lisp.givesList("(list a (begin (define a 2) 7) a (begin (define a 3) 8) a)", 1, 7, 2, 8, 3);
        lisp.failsAfter("(list 1 (begin (define b 5) 2) z (define b 6))", UNBOUND, 10, 3, 1);
        lisp.givesInteger("b", 5);
        lisp.failsAfter("(list z (define a 9))", UNBOUND, 3, 1, 0);
        lisp.givesInteger("a", 3);
    }

    private static void operandsInTheSameEnvironment() {
        Lisp lisp = new Lisp(check);
        lisp.run("(define a 1)");
        lisp.run("(define f (lambda (a) (list a (add a 1) (same (scope) (scope)))))");
        lisp.evaluate("(f 5)");
        lisp.x.pushPart(0, 0);
        check.due("the inner a", lisp.x.value(0), 5);
        lisp.x.pushPart(1, 1);
        lisp.x.pushPart(0, 0);
        check.due("the inner a, in a sum", lisp.x.value(0), 6);
        lisp.givesInteger("a", 1);
    }

    /** "Then a list of new pairs with the results is created" */
    private static void newListOfResults() {
        Lisp lisp = new Lisp(check);
        lisp.push("(1 2)");
        lisp.push("list");
        lisp.x.pushCopy(1);
        lisp.x.makePair();
        check.due("evaluate (list . (1 2))", lisp.x.evaluate(), 4);
        check.due("its length", lisp.x.length(0), 2);
        check.due("it is a new list", lisp.x.areSame(0, 1), 0);
        lisp.x.pushPart(0, 1);
        lisp.x.pushPart(2, 1);
        check.due("all its pairs are new", lisp.x.areSame(0, 1), 0);
        lisp.run("(define l (list 1 2))");
        lisp.givesBoolean("(same l (list 1 2))", false);
        lisp.givesBoolean("(same (car (list l)) l)", true);
    }

    private static void underlyingInTheSameEnvironment() {
        Lisp lisp = new Lisp(check);
        lisp.givesBoolean("(same (scope) ((wrap scope)))", true);
        lisp.givesBoolean("((lambda (a) (same (scope) ((wrap scope)))) 1)", true);
        lisp.run("((wrap define) (quote b) 5)");
        lisp.givesInteger("b", 5);
        lisp.costs("((wrap begin) 1)", 6, 2, 3);
    }

    /** Each operand takes a step, so their number has no other end than the limit and the heap. */
    private static void manyOperands() {
        Lisp lisp = new Lisp(check);
        lisp.x.setLimit(1500);
        lisp.run("(define f (lambda (n l) (if (less n 1) l (f (subtract n 1) (cons 1 l)))))");
        lisp.run("(define l (f 60 ()))");
        lisp.run("(define l (f 60 l))");
        lisp.run("(define l (f 60 l))");
        lisp.givesInteger("(add . @l)", 180);
        check.due("steps", lisp.x.latest(0), 182);
        lisp.givesInteger("(multiply . @l)", 1);
        lisp.evaluate("(list . @l)");
        check.due("length", lisp.x.length(0), 180);
        check.due("frames", lisp.x.latest(1), 1);
    }

    // ---- matching: a tree, and operands of each kind

    private static final String[] OPERANDS = {"5", "#f", "b", "()", "(1)", "@if", "@add", "#env", "#inert"};

    /** Operands of some kinds must match a tree, those of the other kinds must not. */
    private static void matchesKinds(String tree, int steps, int objects, int... kinds) {
        for (int kind = 0; kind < OPERANDS.length; kind++) {
            boolean isDue = false;
            for (int good : kinds) {
                isDue |= good == kind;
            }
            Twin.Setup setup = lisp -> lisp.run("(define f (vau " + tree + " #inert 7))");
            String text = "(f . " + OPERANDS[kind] + ")";
            if (isDue) {
                Lisp lisp = new Lisp(check);
                setup.build(lisp);
                lisp.costs(text, steps, 1, objects);
                lisp.givesInteger(text, 7);
            } else {
                twin.fails(setup, text, BAD_OPERANDS, 2, 1, 0);
            }
        }
    }

    private static void nilMatchesOnlyNil() {
        matchesKinds("()", 3, 1, Lisp.NIL);
    }

    private static void pairMatchesOnlyPairs() {
        matchesKinds("(a . b)", 3, 3, Lisp.PAIR);
        matchesKinds("(#inert . #inert)", 3, 1, Lisp.PAIR);
        matchesKinds("(a)", 3, 2, Lisp.PAIR);
    }

    private static void symbolMatchesEverything() {
        matchesKinds("a", 3, 2, 0, 1, 2, 3, 4, 5, 6, 7, 8);
        for (String text : OPERANDS) {
            Lisp lisp = new Lisp(check);
            lisp.push(text);
            lisp.evaluate("((vau a #inert a) . " + text + ")");
            int due = text.equals("(1)") ? 0 : 1;
            check.due("the symbol is bound to " + text, lisp.x.areSame(0, 1), due);
        }
    }

    private static void inertMatchesEverything() {
        matchesKinds("#inert", 3, 1, 0, 1, 2, 3, 4, 5, 6, 7, 8);
    }

    /** "a pair matches a pair whose car and cdr match its car and cdr" */
    private static void partsAreMatched() {
        String[] trees = {"(a)", "(a b)", "(a . b)", "(())", "((a) b)", "((a . b) . c)", "(() . a)", "(a #inert ())"};
        String[] good = {"(1)", "(1 2)", "(1 2 3)", "(())", "((1) 2)", "((1) 2)", "(() 2)", "(1 2 ())"};
        String[][] bad = {
            {"()", "(1 2)", "(1 . 2)"}, {"()", "(1)", "(1 2 3)", "(1 2 . 3)"}, {"()", "5"}, {"(1)", "(() 1)", "()"},
            {"(1 2)", "((1 1) 2)", "((1) 2 3)", "(() 2)"}, {"(1 2)", "(() 2)"}, {"(1 2)", "(#inert)", "(#f)"},
            {"(1 2 3)", "(1 2)", "(1 2 #inert)"}
        };
        for (int index = 0; index < trees.length; index++) {
            String tree = trees[index];
            Twin.Setup setup = lisp -> lisp.run("(define f (vau " + tree + " #inert 7))");
            Lisp lisp = new Lisp(check);
            setup.build(lisp);
            lisp.givesInteger("(f . " + good[index] + ")", 7);
            for (String operands : bad[index]) {
                twin.fails(setup, "(f . " + operands + ")", BAD_OPERANDS, 2, 1, 0);
            }
        }
    }

    private static void noMatchCreatesNothing() {
        Twin.Setup setup = lisp -> lisp.run("(define f (vau (a b c ()) d 1))");
        twin.fails(setup, "(f 1 2 3 4)", BAD_OPERANDS, 2, 1, 0);
        twin.fails(setup, "(f 1 2 3)", BAD_OPERANDS, 2, 1, 0);
        Twin.Setup function = lisp -> lisp.run("(define f (lambda (a b) 1))");
        twin.fails(function, "(f 1)", BAD_OPERANDS, 3, 1, 1);
        twin.fails(function, "(f 1 2 3)", BAD_OPERANDS, 5, 1, 3);
    }

    // ---- the new environment

    /** "a new environment is created, whose parent is the scope" */
    private static void parentIsScope() {
        Lisp lisp = new Lisp(check);
        lisp.run("(define f (vau #inert #inert (scope)))");
        lisp.run("(define e (environment (scope)))");
        lisp.evaluate("(eval (quote (f)) e)");
        lisp.x.pushPart(0, 0);
        lisp.push("#env");
        check.due("the parent is where vau was called", lisp.x.areSame(0, 1), 1);
        lisp.evaluate("(f)");
        lisp.evaluate("(f)");
        check.due("each call has another one", lisp.x.areSame(0, 1), 0);
        lisp.run("(define g (eval (quote (vau #inert #inert (scope))) e))");
        lisp.evaluate("(g)");
        lisp.x.pushPart(0, 0);
        lisp.evaluate("e");
        check.due("the scope is the environment of the call of vau", lisp.x.areSame(0, 1), 1);
    }

    /** "the environment parameter, if it is a symbol, is bound to the environment of the call" */
    private static void environmentParameter() {
        Lisp lisp = new Lisp(check);
        lisp.run("(define f (vau #inert k k))");
        lisp.run("(define e (environment (scope)))");
        lisp.givesBoolean("(same (f) (scope))", true);
        lisp.givesBoolean("(same (eval (quote (f)) e) e)", true);
        lisp.evaluate("((vau #inert k (scope)))");
        check.due("a binding for the symbol", lisp.x.bindingCount(0), 1);
        lisp.evaluate("((vau #inert #inert (scope)))");
        check.due("none for inert", lisp.x.bindingCount(0), 0);
        lisp.evaluate("((vau (a . b) k (scope)) 1 2)");
        check.due("the tree's and the environment's", lisp.x.bindingCount(0), 3);
    }

    private static void bodyInNewEnvironment() {
        Lisp lisp = new Lisp(check);
        lisp.run("(define f (vau (a) #inert (begin (define b 5) (scope))))");
        lisp.costs("(f 1)", 9, 2, 3);
        lisp.evaluate("(f 1)");
        check.due("its bindings", lisp.x.bindingCount(0), 2);
        lisp.fails("b", UNBOUND);
        lisp.costs("((vau () #inert ((vau () #inert ((vau () #inert 1))))))", 10, 2, 6);
    }

    private static void parametersHideOuterBindings() {
        Lisp lisp = new Lisp(check);
        lisp.run("(define a 1)");
        lisp.givesInteger("((lambda (a) a) 2)", 2);
        lisp.givesInteger("((lambda (if) (add if 1)) 2)", 3);
        lisp.givesInteger("((vau (s99 . s0) #inert s99) 4)", 4);
        lisp.givesInteger("a", 1);
        lisp.givesKind("if", Lisp.OPERATIVE);
    }
}
