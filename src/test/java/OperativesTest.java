/** Promise 20: what expressions, combinations and the primitive operatives 0 to 7 answer. */
public final class OperativesTest {
    private static final int UNBOUND = ScopeInterpreter.UNBOUND;
    private static final int NOT_COMBINER = ScopeInterpreter.NOT_COMBINER;
    private static final int BAD_OPERANDS = ScopeInterpreter.BAD_OPERANDS;
    private static final Check check = new Check();

    public static void main(String[] args) {
        atoms();
        combinations();
        ifs();
        vaus();
        badVaus();
        lambdas();
        defines();
        sets();
        begins();
        quotesAndScopes();
        matching();
        bindingsAndRoom();
        check.finish();
    }

    private static void atoms() {
        Lisp lisp = new Lisp(check);
        check.due("evaluate(), empty", lisp.x.evaluate(), ScopeInterpreter.TOO_FEW);
        lisp.givesInteger("5", 5);
        lisp.givesBoolean("#t", true);
        lisp.givesKind("()", 3);
        lisp.givesKind("#inert", 8);
        lisp.fails("a", UNBOUND);
        lisp.fails("s8", UNBOUND);
        lisp.fails("s9", UNBOUND);
        lisp.fails("s26", UNBOUND);
        lisp.costs("5", 1, 0, 0);
        lisp.costs("if", 1, 0, 0);
        lisp.failsAfter("a", UNBOUND, 1, 0, 0);
        lisp.evaluate("(environment)");
        check.due("an environment is its own value", lisp.x.evaluate(), 1);
        check.due("kind", lisp.x.kind(0), 7);
        lisp.x.pushInteger(3);
        check.due("what is below stays", lisp.x.evaluate(), 1);
        check.due("size", lisp.x.size(), 2);
    }

    private static void combinations() {
        Lisp lisp = new Lisp(check);
        lisp.failsAfter("(5 6)", NOT_COMBINER, 2, 1, 0);
        lisp.failsAfter("(5 . 6)", NOT_COMBINER, 2, 1, 0);
        lisp.fails("(#t)", NOT_COMBINER);
        lisp.fails("(())", NOT_COMBINER);
        lisp.fails("((scope))", NOT_COMBINER);
        lisp.fails("(a)", UNBOUND);
        lisp.failsAfter("(add . 5)", BAD_OPERANDS, 2, 1, 0);
        lisp.failsAfter("(add 1 . 5)", BAD_OPERANDS, 2, 1, 0);
        lisp.failsAfter("(add 1 a 2)", UNBOUND, 4, 1, 0);
        lisp.costs("(add (add 1 2) 3)", 7, 2, 4);
        lisp.costs("((begin add) 1)", 5, 2, 1);
        lisp.givesInteger("((begin add) 1)", 1);
        lisp.givesList("(list 1 (add 1 1) 3)", 1, 2, 3);
    }

    private static void ifs() {
        Lisp lisp = new Lisp(check);
        lisp.givesInteger("(if #t 1 2)", 1);
        lisp.givesInteger("(if #f 1 2)", 2);
        lisp.givesInteger("(if (less 1 2) (add 1 2) a)", 3);
        lisp.costs("(if #t 1 a)", 4, 1, 0);
        lisp.costs("(if #f a (add))", 5, 1, 0);
        lisp.failsAfter("(if 1 2 3)", BAD_OPERANDS, 3, 1, 0);
        lisp.fails("(if () 2 3)", BAD_OPERANDS);
        lisp.failsAfter("(if a 2 3)", UNBOUND, 3, 1, 0);
        lisp.failsAfter("(if #t 1)", BAD_OPERANDS, 2, 1, 0);
        lisp.failsAfter("(if a 1)", BAD_OPERANDS, 2, 1, 0);
        lisp.fails("(if)", BAD_OPERANDS);
        lisp.fails("(if #t 1 2 3)", BAD_OPERANDS);
        lisp.fails("(if #t 1 . 2)", BAD_OPERANDS);
        lisp.fails("(if #t 1 2 . 3)", BAD_OPERANDS);
        lisp.fails("(if . #t)", BAD_OPERANDS);
    }

    private static void vaus() {
        Lisp lisp = new Lisp(check);
        lisp.givesKind("(vau a b c)", 5);
        lisp.givesList("((vau a #inert a) b c)", 41, 42);
        lisp.givesInteger("((vau (a b) #inert b) 1 2)", 2);
        lisp.givesInteger("((vau #inert #inert 3) 1 2)", 3);
        lisp.givesInteger("((vau () #inert 3))", 3);
        lisp.givesInteger("((vau (a . #inert) #inert a) 4)", 4);
        lisp.givesInteger("((vau a b (eval (car a) b)) (add 1 2))", 3);
        lisp.givesInteger("((vau (a) if a) 9)", 9);
        lisp.costs("((vau (a) b 7) 1)", 4, 2, 4);
        lisp.run("(define x 1)");
        lisp.run("(define f (vau #inert e (begin (define x 2) (add x (eval (quote x) e)))))");
        lisp.givesInteger("(f)", 3);
        lisp.givesInteger("x", 1);
        lisp.run("(define g ((lambda (x) (vau #inert e x)) 10))");
        lisp.givesInteger("(g)", 10);
        lisp.givesInteger("((lambda (x) (f)) 20)", 22);
    }

    private static void badVaus() {
        Lisp lisp = new Lisp(check);
        String[] bad = {
            "(vau)", "(vau a b)", "(vau a b c d)", "(vau a b . c)", "(vau . a)",
            "(vau 1 b c)", "(vau (a 1) b c)", "(vau #t b c)", "(vau (a a) b c)", "(vau (a (b a)) #inert c)",
            "(vau (a . a) b c)", "(vau a a c)", "(vau (b a) a c)", "(vau a () c)", "(vau a 1 c)",
            "(vau a (b) c)", "(lambda)", "(lambda a)", "(lambda a b c)", "(lambda 1 b)", "(lambda (a a) b)",
            "(lambda a . b)"
        };
        for (String text : bad) {
            lisp.failsAfter(text, BAD_OPERANDS, 2, 1, 0);
        }
        lisp.givesKind("(vau (a #inert () #inert ()) #inert 1)", 5);
        lisp.givesKind("(vau (if . vau) lambda c)", 5);
        lisp.fails("(vau (1 b) #inert c)", BAD_OPERANDS);
        lisp.givesInteger("((vau (b) #inert b) 5)", 5);
        lisp.fails("((vau (() b c) #inert b) 5 6 7)", BAD_OPERANDS);
        lisp.givesInteger("((vau (b) #inert b) 5)", 5);
    }

    private static void lambdas() {
        Lisp lisp = new Lisp(check);
        lisp.givesKind("(lambda (a) a)", 6);
        lisp.givesInteger("((lambda (a b) (add a b)) 1 (add 1 1))", 3);
        lisp.givesList("((lambda a a) 1 2)", 1, 2);
        lisp.fails("((lambda (a) a))", BAD_OPERANDS);
        lisp.fails("((lambda (a) a) 1 2)", BAD_OPERANDS);
        lisp.fails("((lambda () 1) 1)", BAD_OPERANDS);
        lisp.costs("((lambda (a) a) 5)", 5, 2, 5);
        lisp.run("(define f (lambda (n) (if (less n 2) 1 (multiply n (f (subtract n 1))))))");
        lisp.givesInteger("(f 10)", 3628800);
        lisp.run("(define c ((lambda (n) (lambda () (begin (set (scope) n (add n 1)) n))) 5))");
        lisp.givesInteger("(c)", 6);
        lisp.evaluate("(lambda (a) a)");
        lisp.x.pushPart(0, 0);
        check.due("kind of the underlying", lisp.x.kind(0), 5);
        lisp.givesList("((unwrap (lambda a a)) b c)", 41, 42);
    }

    private static void defines() {
        Lisp lisp = new Lisp(check);
        lisp.givesKind("(define a (add 1 2))", 8);
        lisp.givesInteger("a", 3);
        lisp.run("(define a 4)");
        lisp.givesInteger("a", 4);
        lisp.costs("(define b 5)", 3, 1, 1);
        lisp.costs("(define b 6)", 3, 1, 0);
        String[] bad = {
            "(define)", "(define a)", "(define a 1 2)", "(define 5 1)", "(define (a) 1)", "(define a . 1)",
            "(define a 1 . 2)", "(define #inert z)", "(define () z)"
        };
        for (String text : bad) {
            lisp.failsAfter(text, BAD_OPERANDS, 2, 1, 0);
        }
        lisp.failsAfter("(define a z)", UNBOUND, 3, 1, 0);
        lisp.givesInteger("a", 4);
        lisp.run("(define add 5)");
        lisp.givesInteger("add", 5);
        lisp.givesInteger("((lambda () (begin (define a 9) a)))", 9);
        lisp.givesInteger("a", 4);
    }

    private static void sets() {
        Lisp lisp = new Lisp(check);
        lisp.run("(define e (environment))");
        lisp.givesKind("(set e a (add 1 2))", 8);
        lisp.givesInteger("(eval (quote a) e)", 3);
        lisp.fails("a", UNBOUND);
        lisp.costs("(set e b 5)", 4, 1, 1);
        lisp.costs("(set e b 6)", 4, 1, 0);
        lisp.run("(define p 7)");
        lisp.run("(define q (environment (scope)))");
        lisp.run("(set q p 8)");
        lisp.givesInteger("p", 7);
        lisp.givesInteger("(eval (quote p) q)", 8);
        lisp.run("(set (scope) p 9)");
        lisp.givesInteger("p", 9);
        lisp.failsAfter("(set 5 a z)", BAD_OPERANDS, 3, 1, 0);
        lisp.failsAfter("(set e a z)", UNBOUND, 4, 1, 0);
        lisp.failsAfter("(set z a 1)", UNBOUND, 3, 1, 0);
        String[] bad = {
            "(set)", "(set e)", "(set e a)", "(set e a 1 2)", "(set e 5 1)", "(set z 5 1)", "(set e (a) 1)",
            "(set e a . 1)", "(set e a 1 . 2)"
        };
        for (String text : bad) {
            lisp.failsAfter(text, BAD_OPERANDS, 2, 1, 0);
        }
        lisp.run("(define f (vau #inert d (set d x y)))");
        lisp.run("(define y 3)");
        lisp.run("(f)");
        lisp.givesInteger("x", 3);
        lisp.run("(define g (vau #inert d (begin (define y 4) (set d x (begin y)))))");
        lisp.run("(g)");
        lisp.givesInteger("x", 4);
    }

    private static void begins() {
        Lisp lisp = new Lisp(check);
        lisp.costs("(begin)", 2, 1, 0);
        lisp.givesKind("(begin)", 8);
        lisp.givesInteger("(begin 1)", 1);
        lisp.givesInteger("(begin 1 2 3)", 3);
        lisp.costs("(begin 1 2 3)", 5, 1, 0);
        lisp.costs("(begin (add))", 4, 1, 0);
        lisp.costs("(begin (add) 1)", 5, 2, 0);
        lisp.givesInteger("(begin (define a 1) (define a (add a 1)) a)", 2);
        lisp.failsAfter("(begin 1 . 2)", BAD_OPERANDS, 2, 1, 0);
        lisp.failsAfter("(begin . 2)", BAD_OPERANDS, 2, 1, 0);
        lisp.failsAfter("(begin z 2)", UNBOUND, 3, 1, 0);
        lisp.fails("(begin (define k 7) z (define k 8))", UNBOUND);
        lisp.givesInteger("k", 7);
    }

    private static void quotesAndScopes() {
        Lisp lisp = new Lisp(check);
        lisp.gives("(quote a)", 2, 40);
        lisp.givesList("(quote (1 2))", 1, 2);
        lisp.costs("(quote (1 2))", 2, 1, 0);
        lisp.fails("(quote)", BAD_OPERANDS);
        lisp.fails("(quote 1 2)", BAD_OPERANDS);
        lisp.fails("(quote . 1)", BAD_OPERANDS);
        lisp.givesKind("(scope)", 7);
        lisp.costs("(scope)", 2, 1, 0);
        lisp.fails("(scope 1)", BAD_OPERANDS);
        lisp.fails("(scope . 1)", BAD_OPERANDS);
        lisp.givesBoolean("(same (scope) (scope))", true);
        lisp.givesBoolean("(same (scope) ((lambda () (scope))))", false);
        lisp.givesBoolean("((vau () e (same e (scope))))", false);
        lisp.givesBoolean("(same (scope) ((vau () e e)))", true);
    }

    private static void matching() {
        Lisp lisp = new Lisp(check);
        lisp.fails("((vau () #inert 1) 2)", BAD_OPERANDS);
        lisp.fails("((vau () #inert 1) . 2)", BAD_OPERANDS);
        lisp.fails("((vau (a) #inert 1))", BAD_OPERANDS);
        lisp.fails("((vau (a) #inert 1) 1 2)", BAD_OPERANDS);
        lisp.fails("((vau (a) #inert 1) . 1)", BAD_OPERANDS);
        lisp.fails("((vau ((a)) #inert 1) b)", BAD_OPERANDS);
        lisp.fails("((vau (a b ()) #inert 1) 1 2 3)", BAD_OPERANDS);
        lisp.failsAfter("((vau (a b) #inert 1) 1)", BAD_OPERANDS, 3, 2, 1);
        lisp.gives("((vau a #inert a) . b)", 2, 41);
        lisp.gives("((vau (a . b) #inert b) 1 . c)", 2, 42);
        lisp.givesInteger("((vau ((a b) c) #inert (add a b c)) (1 2) 3)", 6);
        lisp.givesList("((vau ((a . b) . c) #inert (cons a c)) (1 2) 3 4)", 1, 3, 4);
        lisp.givesInteger("((vau (() #inert a) #inert a) () 5 6)", 6);
        lisp.givesInteger("((vau #inert #inert 1) . 5)", 1);
        lisp.run("(define f (vau (a (b (c d) e) . g) h (list a b c d e (car g))))");
        lisp.givesList("(f 1 (2 (3 4) 5) 6)", 1, 2, 3, 4, 5, 6);
    }

    /** An environment and each of its bindings need room. */
    private static void bindingsAndRoom() {
        String[] names = {"p", "q", "r", "h"};
        for (int room = 0; room <= 5; room++) {
            Lisp lisp = new Lisp(check);
            ScopeInterpreter x = lisp.x;
            lisp.run("(define f (vau ((p . q) r) h (scope)))");
            lisp.push("(f (1 . 2) 3)");
            int size = x.size();
            lisp.leaveRoom(room);
            check.due("the expression stays", x.size(), size);
            check.due("room " + room, x.evaluate(), room < 5 ? ScopeInterpreter.HEAP_FULL : 4);
            check.due("the heap is full", x.heapSize(), 4000);
            if (room == 5) {
                for (String name : names) {
                    check.due("binding of " + name, x.pushBinding(x.size() - 1, Lisp.symbol(name)) > 0);
                }
            }
        }
    }
}
