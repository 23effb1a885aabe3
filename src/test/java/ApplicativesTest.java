/** Promise 20: what the applicatives 10 to 25 answer. */
public final class ApplicativesTest {
    private static final int UNBOUND = ScopeInterpreter.UNBOUND;
    private static final int NOT_COMBINER = ScopeInterpreter.NOT_COMBINER;
    private static final int BAD_OPERANDS = ScopeInterpreter.BAD_OPERANDS;
    private static final int OVERFLOW = ScopeInterpreter.OVERFLOW;
    private static final Check check = new Check();

    public static void main(String[] args) {
        sums();
        products();
        differences();
        comparisons();
        sameness();
        pairs();
        evals();
        wraps();
        unwraps();
        environments();
        applies();
        lists();
        underlyingOperatives();
        check.finish();
    }

    private static void bad(Lisp lisp, String... texts) {
        for (String text : texts) {
            lisp.fails(text, BAD_OPERANDS);
        }
    }

    private static void sums() {
        Lisp lisp = new Lisp(check);
        lisp.givesInteger("(add)", 0);
        lisp.givesInteger("(add -7)", -7);
        lisp.givesInteger("(add 1 2 3 -10)", -4);
        lisp.givesInteger("(add 999999999999999 1)", 1000000000000000L);
        lisp.givesInteger("(add -999999999999999 -1)", -1000000000000000L);
        lisp.fails("(add 1000000000000000 1)", OVERFLOW);
        lisp.fails("(add -1000000000000000 -1)", OVERFLOW);
        lisp.fails("(add 1000000000000000 1 -5)", OVERFLOW);
        lisp.givesInteger("(add -5 1000000000000000 1)", 999999999999996L);
        lisp.failsAfter("(add 1000000000000000 1)", OVERFLOW, 4, 1, 2);
        bad(lisp, "(add #t)", "(add 1 ())", "(add 1 if)", "(add 1000000000000000 1 #f)", "(add (quote a))");
    }

    private static void products() {
        Lisp lisp = new Lisp(check);
        lisp.givesInteger("(multiply)", 1);
        lisp.givesInteger("(multiply -7)", -7);
        lisp.givesInteger("(multiply 2 -3 4)", -24);
        lisp.givesInteger("(multiply 0 1000000000000000 1000000000000000)", 0);
        lisp.givesInteger("(multiply 1000000000000000 0)", 0);
        lisp.givesInteger("(multiply 1000000000000000 -1)", -1000000000000000L);
        lisp.givesInteger("(multiply 31622776 31622776)", 999999961946176L);
        lisp.givesInteger("(multiply -1000000 1000000000)", -1000000000000000L);
        lisp.givesInteger("(multiply 333333333333333 3)", 999999999999999L);
        lisp.fails("(multiply 333333333333334 3)", OVERFLOW);
        lisp.fails("(multiply -333333333333334 3)", OVERFLOW);
        lisp.fails("(multiply 31622777 31622777)", OVERFLOW);
        lisp.fails("(multiply 1000000000000000 1000000000000000)", OVERFLOW);
        lisp.fails("(multiply 1000000000000000 2 0)", OVERFLOW);
        lisp.fails("(multiply 4294967296 4294967296)", OVERFLOW);
        lisp.fails("(multiply 8589934592 4294967296)", OVERFLOW);
        bad(lisp, "(multiply #t)", "(multiply 1 ())", "(multiply 1000000000000000 2 #f)");
    }

    private static void differences() {
        Lisp lisp = new Lisp(check);
        lisp.givesInteger("(subtract 5 7)", -2);
        lisp.givesInteger("(subtract -5 -7)", 2);
        lisp.givesInteger("(subtract 0 1000000000000000)", -1000000000000000L);
        lisp.fails("(subtract -1 1000000000000000)", OVERFLOW);
        lisp.fails("(subtract 1000000000000000 -1)", OVERFLOW);
        bad(lisp, "(subtract)", "(subtract 1)", "(subtract 1 2 3)", "(subtract #t 1)", "(subtract 1 #t)");
    }

    private static void comparisons() {
        Lisp lisp = new Lisp(check);
        lisp.givesBoolean("(less 1 2)", true);
        lisp.givesBoolean("(less 2 1)", false);
        lisp.givesBoolean("(less 2 2)", false);
        lisp.givesBoolean("(less -2 1)", true);
        lisp.givesBoolean("(less -1000000000000000 1000000000000000)", true);
        bad(lisp, "(less)", "(less 1)", "(less 1 2 3)", "(less #f 1)", "(less 1 #f)", "(less () ())");
    }

    private static void sameness() {
        Lisp lisp = new Lisp(check);
        lisp.givesBoolean("(same 1 1)", true);
        lisp.givesBoolean("(same 1 2)", false);
        lisp.givesBoolean("(same 1 #t)", false);
        lisp.givesBoolean("(same #t #t)", true);
        lisp.givesBoolean("(same (quote a) (quote a))", true);
        lisp.givesBoolean("(same (quote a) (quote b))", false);
        lisp.givesBoolean("(same () ())", true);
        lisp.givesBoolean("(same #inert #inert)", true);
        lisp.givesBoolean("(same #inert ())", false);
        lisp.givesBoolean("(same (cons 1 2) (cons 1 2))", false);
        lisp.givesBoolean("((lambda (p) (same p p)) (cons 1 2))", true);
        lisp.givesBoolean("(same add add)", true);
        lisp.givesBoolean("(same add multiply)", false);
        lisp.givesBoolean("(same if if)", true);
        lisp.givesBoolean("(same (unwrap add) (unwrap add))", true);
        lisp.givesBoolean("(same (wrap if) (wrap if))", false);
        lisp.givesBoolean("(same (unwrap (wrap if)) if)", true);
        lisp.givesBoolean("(same (environment) (environment))", false);
        bad(lisp, "(same)", "(same 1)", "(same 1 1 1)");
    }

    private static void pairs() {
        Lisp lisp = new Lisp(check);
        lisp.givesKind("(cons 1 2)", 4);
        lisp.givesInteger("(car (cons 1 2))", 1);
        lisp.givesInteger("(cdr (cons 1 2))", 2);
        lisp.givesList("(cons 1 (cons 2 ()))", 1, 2);
        lisp.costs("(cons 1 2)", 4, 1, 3);
        lisp.costs("(car (quote (1)))", 4, 2, 1);
        bad(lisp, "(cons)", "(cons 1)", "(cons 1 2 3)", "(car)", "(car ())", "(car 1)", "(cdr ())", "(cdr)",
                "(car (cons 1 2) 3)", "(cdr (cons 1 2) (cons 1 2))", "(cdr #inert)", "(car if)", "(cdr (scope))");
        lisp.givesBoolean("(is-nil ())", true);
        lisp.givesBoolean("(is-nil #inert)", false);
        lisp.givesBoolean("(is-nil (cons 1 2))", false);
        lisp.givesBoolean("(is-nil 0)", false);
        lisp.givesBoolean("(is-pair (cons 1 2))", true);
        lisp.givesBoolean("(is-pair ())", false);
        lisp.givesBoolean("(is-pair add)", false);
        bad(lisp, "(is-nil)", "(is-nil 1 2)", "(is-pair)", "(is-pair 1 2)");
    }

    private static void evals() {
        Lisp lisp = new Lisp(check);
        lisp.run("(define a 1)");
        lisp.givesInteger("(eval (quote a) (scope))", 1);
        lisp.fails("(eval (quote a) (environment))", UNBOUND);
        lisp.givesInteger("(eval (list add 1 2) (environment))", 3);
        lisp.fails("(eval (quote (add 1 2)) (environment))", UNBOUND);
        lisp.run("(define e (environment (scope)))");
        lisp.run("(eval (quote (define a 2)) e)");
        lisp.givesInteger("a", 1);
        lisp.givesInteger("(eval (quote a) e)", 2);
        lisp.costs("(eval 5 e)", 5, 1, 2);
        bad(lisp, "(eval)", "(eval 1)", "(eval 1 2)", "(eval e 1)", "(eval 1 e e)", "(eval 1 ())");
    }

    private static void wraps() {
        Lisp lisp = new Lisp(check);
        lisp.givesKind("(wrap if)", 6);
        lisp.givesInteger("((wrap if) #f 1 2)", 2);
        lisp.givesInteger("((wrap quote) (add 1 2))", 3);
        lisp.givesKind("(wrap add)", 6);
        lisp.run("(define a 5)");
        lisp.givesInteger("((wrap add) (quote a) 1)", 6);
        lisp.costs("((wrap add) 1 2)", 8, 2, 6);
        lisp.fails("((wrap add) (quote z))", UNBOUND);
        lisp.costs("((wrap (wrap add)))", 6, 3, 4);
        bad(lisp, "(wrap)", "(wrap 1)", "(wrap if if)", "(wrap ())", "(wrap (quote if))", "(wrap (scope))");
    }

    private static void unwraps() {
        Lisp lisp = new Lisp(check);
        lisp.givesKind("(unwrap add)", 5);
        lisp.givesInteger("((unwrap add) 1 2)", 3);
        lisp.costs("((unwrap add) 1 2)", 4, 2, 1);
        lisp.fails("((unwrap add) a)", BAD_OPERANDS);
        lisp.fails("((unwrap add) (add 1))", BAD_OPERANDS);
        lisp.givesBoolean("(same (unwrap (wrap add)) add)", true);
        lisp.costs("(unwrap add)", 3, 1, 1);
        bad(lisp, "(unwrap)", "(unwrap if)", "(unwrap 1)", "(unwrap add add)", "(unwrap (vau a b c))");
    }

    private static void environments() {
        Lisp lisp = new Lisp(check);
        lisp.givesKind("(environment)", 7);
        lisp.fails("(eval (quote add) (environment))", UNBOUND);
        lisp.givesKind("(eval (quote add) (environment (scope)))", 6);
        lisp.costs("(environment)", 2, 1, 1);
        lisp.costs("(environment (scope))", 4, 2, 2);
        bad(lisp, "(environment 1)", "(environment ())", "(environment (scope) (scope))", "(environment if)");
    }

    private static void applies() {
        Lisp lisp = new Lisp(check);
        lisp.givesInteger("(apply add (list 1 2))", 3);
        lisp.givesInteger("(apply add ())", 0);
        lisp.gives("(apply (lambda a a) (quote b))", 2, 41);
        lisp.fails("(apply add 5)", BAD_OPERANDS);
        lisp.fails("(apply list 5)", BAD_OPERANDS);
        lisp.fails("(apply list (cons 1 2))", BAD_OPERANDS);
        lisp.givesList("(apply (wrap quote) (list (list 1 2)))", 1, 2);
        lisp.run("(define a 5)");
        lisp.fails("(apply (wrap add) (quote (a)))", UNBOUND);
        lisp.givesInteger("(apply (wrap add) (quote (3 4)))", 7);
        lisp.fails("(apply (wrap add) 5)", BAD_OPERANDS);
        lisp.evaluate("(apply (wrap scope) ())");
        check.due("bindings of apply's environment", lisp.x.bindingCount(0), 0);
        check.due("parent of it", lisp.x.pushPart(0, 0), ScopeInterpreter.NONE);
        lisp.costs("(apply add ())", 4, 1, 3);
        lisp.costs("(apply (lambda a a) 5)", 6, 2, 7);
        lisp.givesInteger("(apply apply (list add (list 1 2)))", 3);
        bad(lisp, "(apply)", "(apply add)", "(apply add () ())", "(apply if ())", "(apply 5 ())");
        lisp.fails("(apply (wrap if) (list 1 2 3))", BAD_OPERANDS);
        lisp.fails("(apply (wrap if) (list #t (quote a) 3))", UNBOUND);
        lisp.fails("((apply (wrap quote) (list 5)))", NOT_COMBINER);
    }

    private static void lists() {
        Lisp lisp = new Lisp(check);
        lisp.givesKind("(list)", 3);
        lisp.givesList("(list 1 2 3)", 1, 2, 3);
        lisp.costs("(list 1 2 3)", 5, 1, 3);
        lisp.costs("(list)", 2, 1, 0);
        lisp.push("(quote ((unwrap list) 1 2))");
        lisp.x.evaluate();
        lisp.x.pushPart(0, 1);
        lisp.evaluate("((unwrap list) 1 2)");
        check.due("a new text is a new list", lisp.x.areSame(0, 1), 0);
        lisp.run("(define f (vau a #inert (same a (apply list a))))");
        lisp.givesBoolean("(f 1 2)", true);
    }

    private static void underlyingOperatives() {
        String[] names = {
            "add", "multiply", "subtract", "less", "same", "cons", "car", "cdr", "is-nil", "is-pair", "eval",
            "wrap", "unwrap", "environment", "apply", "list"
        };
        for (String name : names) {
            Lisp lisp = new Lisp(check);
            lisp.failsAfter("((unwrap " + name + ") . 5)", BAD_OPERANDS, 4, 2, 1);
            lisp.fails("((unwrap " + name + ") 1 . 5)", BAD_OPERANDS);
            lisp.fails("((unwrap " + name + ") 1 2 . 5)", BAD_OPERANDS);
        }
        Lisp lisp = new Lisp(check);
        lisp.givesBoolean("((unwrap is-pair) (1 2))", true);
        lisp.gives("((unwrap car) (a b))", 2, 40);
    }
}
