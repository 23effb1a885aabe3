/** The edges of the primitive operatives 0 to 7; vau and lambda's trees are in ParameterEdgesTest. */
public final class OperativeEdgesTest {
    private static final int UNBOUND = ScopeInterpreter.UNBOUND;
    private static final int BAD_OPERANDS = ScopeInterpreter.BAD_OPERANDS;
    private static final Check check = new Check();
    private static final Twin twin = new Twin(check);

    public static void main(String[] args) {
        operandsOfOtherNumber();
        numberIsCheckedFirst();
        operandsThatAreNoList();
        ifNeedsBoolean();
        ifEvaluatesOne();
        vauKeepsItsScope();
        lambdaIsApplicative();
        defineNeedsSymbol();
        defineBindsAnyValue();
        defineWhereCalled();
        setNeedsSymbol();
        setNeedsEnvironment();
        setChecksEnvironmentFirst();
        setEvaluatesWhereCalled();
        setBindsInOtherEnvironment();
        beginOfNone();
        beginOfAnyNumber();
        beginFromTheFirstOn();
        quoteOfEachKind();
        scopeOfCall();
        check.finish();
    }

    // ---- the number of operands

    private static final String[][] OPERANDS = {
        {"if", "#t", "1", "2"}, {"vau", "b", "#inert", "1"}, {"lambda", "b", "1"}, {"define", "b", "1"},
        {"set", "(scope)", "b", "1"}, {"quote", "1"}, {"scope"}
    };

    private static String join(String[] parts, int count, String end) {
        StringBuilder text = new StringBuilder("(");
        for (int index = 0; index < count; index++) {
            text.append(parts[index]).append(' ');
        }
        return text.append(end).append(')').toString();
    }

    /** "if the operands are not a list of so many elements" */
    private static void operandsOfOtherNumber() {
        for (String[] parts : OPERANDS) {
            Lisp lisp = new Lisp(check);
            check.due(join(parts, parts.length, ""), lisp.evaluate(join(parts, parts.length, "")) > 0);
            for (int count = 1; count < parts.length; count++) {
                twin.fails(join(parts, count, ""), BAD_OPERANDS, 2, 1, 0);
            }
            twin.fails(join(parts, parts.length, "3"), BAD_OPERANDS, 2, 1, 0);
            twin.fails(join(parts, parts.length, "3 4"), BAD_OPERANDS, 2, 1, 0);
            twin.fails(join(parts, parts.length, "()"), BAD_OPERANDS, 2, 1, 0);
        }
    }

    /** Nothing is evaluated where the number is wrong: z is unbound. */
    private static void numberIsCheckedFirst() {
        String[] texts = {
            "(if z 1)", "(if z 1 2 3)", "(define b z 1)", "(define z)", "(set z b)", "(set z b z z)", "(begin z . z)"
        };
        for (String text : texts) {
            twin.fails(text, BAD_OPERANDS, 2, 1, 0);
        }
    }

    private static void operandsThatAreNoList() {
        for (String[] parts : OPERANDS) {
            String[] ends = {"5", "#f", "b", "@if", "@add", "#env", "#inert"};
            for (String end : ends) {
                for (int count = 1; count <= parts.length; count++) {
                    twin.fails(join(parts, count, ". " + end), BAD_OPERANDS, 2, 1, 0);
                }
            }
        }
        twin.fails("(begin . 5)", BAD_OPERANDS, 2, 1, 0);
        twin.fails("(begin 1 . 5)", BAD_OPERANDS, 2, 1, 0);
        twin.fails("(begin 1 2 . #inert)", BAD_OPERANDS, 2, 1, 0);
    }

    // ---- if

    /** "A result that is not a boolean is BAD_OPERANDS, too." */
    private static void ifNeedsBoolean() {
        for (int kind = 0; kind < Lisp.OF_KIND.length; kind++) {
            if (kind != 1) {
                twin.fails("(if (quote " + Lisp.OF_KIND[kind] + ") 1 2)", BAD_OPERANDS, 4, 2, 0);
            }
        }
        twin.fails("(if 0 1 2)", BAD_OPERANDS, 3, 1, 0);
        twin.fails("(if 1 z z)", BAD_OPERANDS, 3, 1, 0);
        twin.fails("(if z 1 2)", UNBOUND, 3, 1, 0);
    }

    private static void ifEvaluatesOne() {
        Lisp lisp = new Lisp(check);
        lisp.givesInteger("(if #t 1 z)", 1);
        lisp.givesInteger("(if #f z 2)", 2);
        lisp.costs("(if #t (add) z)", 5, 1, 0);
        lisp.costs("(if #f z (add))", 5, 1, 0);
        lisp.costs("(if (less 1 2) (if (less 2 1) z (begin)) z)", 14, 2, 4);
        twin.fails("(if #t z 2)", UNBOUND, 4, 1, 0);
        twin.fails("(if #f 1 z)", UNBOUND, 4, 1, 0);
    }

    // ---- vau and lambda

    private static void vauKeepsItsScope() {
        Lisp lisp = new Lisp(check);
        lisp.run("(define a 1)");
        lisp.run("(define f ((lambda (a) (vau () #inert a)) 5))");
        lisp.givesInteger("(f)", 5);
        lisp.givesInteger("((lambda (a) (f)) 9)", 5);
        lisp.givesInteger("a", 1);
        lisp.givesInteger("((vau b #inert 3) . 5)", 3);
        lisp.costs("(vau b c z)", 2, 1, 1);
    }

    /** "a new applicative whose underlying combiner it is, which is the result" */
    private static void lambdaIsApplicative() {
        Lisp lisp = new Lisp(check);
        lisp.evaluate("(lambda (a) (scope))");
        check.due("kind", lisp.x.kind(0), Lisp.APPLICATIVE);
        check.due("objects: the pairs of the text, and two", lisp.x.heapSize(), 3 + 1 + 1 + 2);
        lisp.x.pushPart(0, 0);
        check.due("kind of the underlying", lisp.x.kind(0), Lisp.OPERATIVE);
        lisp.run("(define f (lambda (a) (scope)))");
        lisp.evaluate("(f 1)");
        check.due("inert for environment: one binding", lisp.x.bindingCount(0), 1);
        lisp.givesInteger("((lambda (a) a) (add 1 2))", 3);
        lisp.gives("((unwrap (lambda (a) a)) c)", 2, Lisp.symbol("c"));
    }

    // ---- define

    private static void defineNeedsSymbol() {
        for (int kind = 0; kind < Lisp.OF_KIND.length; kind++) {
            if (kind != 2) {
                twin.fails("(define " + Lisp.OF_KIND[kind] + " 1)", BAD_OPERANDS, 2, 1, 0);
                twin.fails("(define " + Lisp.OF_KIND[kind] + " z)", BAD_OPERANDS, 2, 1, 0);
            }
        }
        twin.fails("(define b z)", UNBOUND, 3, 1, 0);
        new Lisp(check).costs("(define s0 1)", 3, 1, 1);
        new Lisp(check).costs("(define s99 1)", 3, 1, 1);
    }

    private static void defineBindsAnyValue() {
        for (String text : Lisp.OF_KIND) {
            Lisp lisp = new Lisp(check);
            lisp.push(text);
            lisp.givesKind("(define c (quote " + text + "))", 8);
            lisp.push("#env");
            lisp.x.pushBinding(0, Lisp.symbol("c"));
            lisp.x.pushPart(0, 0);
            int size = lisp.x.size();
            check.due("c is " + text, lisp.x.areSame(size == 4 ? 1 : 0, size - 1), text.equals("(1)") ? 0 : 1);
        }
    }

    private static void defineWhereCalled() {
        Lisp lisp = new Lisp(check);
        lisp.run("(define f (lambda () (begin (define b 5) (scope))))");
        lisp.evaluate("(f)");
        check.due("bound in the environment of the call", lisp.x.bindingCount(0), 1);
        lisp.fails("b", UNBOUND);
        lisp.run("(define g (vau #inert #inert (define b ((lambda (c) c) 7))))");
        lisp.run("(g)");
        lisp.fails("b", UNBOUND);
    }

    // ---- set

    private static void setNeedsSymbol() {
        for (int kind = 0; kind < Lisp.OF_KIND.length; kind++) {
            if (kind != 2) {
                twin.fails("(set (scope) " + Lisp.OF_KIND[kind] + " 1)", BAD_OPERANDS, 2, 1, 0);
                twin.fails("(set z " + Lisp.OF_KIND[kind] + " z)", BAD_OPERANDS, 2, 1, 0);
            }
        }
        new Lisp(check).costs("(set (scope) s0 1)", 5, 2, 1);
        new Lisp(check).costs("(set (scope) s99 1)", 5, 2, 1);
    }

    /** "whose result must be an environment" */
    private static void setNeedsEnvironment() {
        for (int kind = 0; kind < Lisp.OF_KIND.length; kind++) {
            String text = "(set (quote " + Lisp.OF_KIND[kind] + ") b 1)";
            if (kind == Lisp.ENVIRONMENT) {
                new Lisp(check).costs(text, 5, 2, 1);
            } else {
                twin.fails(text, BAD_OPERANDS, 4, 2, 0);
            }
        }
    }

    /** "it is checked that the first result is an environment before expression is evaluated" */
    private static void setChecksEnvironmentFirst() {
        twin.fails("(set 5 b z)", BAD_OPERANDS, 3, 1, 0);
        twin.fails("(set 5 b (define a 1))", BAD_OPERANDS, 3, 1, 0);
        twin.fails("(set z b (define a 1))", UNBOUND, 3, 1, 0);
        twin.fails("(set (scope) b z)", UNBOUND, 5, 2, 0);
    }

    /** "Both are evaluated in the environment of the call" */
    private static void setEvaluatesWhereCalled() {
        Lisp lisp = new Lisp(check);
        lisp.run("(define a 1)");
        lisp.run("(define e (environment))");
        lisp.run("(set e a 2)");
        lisp.run("(set e b (add a 10))");
        lisp.givesInteger("(eval (quote b) e)", 11);
        lisp.run("(define f (lambda (e a) (set e c (add a 10))))");
        lisp.run("(f e 5)");
        lisp.givesInteger("(eval (quote c) e)", 15);
    }

    private static void setBindsInOtherEnvironment() {
        Lisp lisp = new Lisp(check);
        lisp.run("(define e (environment (scope)))");
        lisp.givesKind("(set e a 5)", 8);
        lisp.fails("a", UNBOUND);
        lisp.evaluate("e");
        check.due("bindings", lisp.x.bindingCount(0), 1);
        lisp.run("(set e a 6)");
        check.due("bindings still", lisp.x.bindingCount(0), 1);
        lisp.x.pushBinding(0, Lisp.symbol("a"));
        check.due("value", lisp.x.value(0), 6);
    }

    // ---- begin

    /** "inert if there are none" */
    private static void beginOfNone() {
        Lisp lisp = new Lisp(check);
        lisp.givesKind("(begin)", 8);
        lisp.costs("(begin)", 2, 1, 0);
    }

    private static void beginOfAnyNumber() {
        Lisp lisp = new Lisp(check);
        lisp.costs("(begin 1)", 3, 1, 0);
        lisp.costs("(begin (begin (begin)))", 6, 1, 0);
        lisp.costs("(begin (begin (begin)) 1)", 7, 2, 0);
        lisp.costs("(begin 1 (begin 2 (begin 3 (begin))))", 11, 1, 0);
        lisp.givesInteger("(begin 1 2 3)", 3);
        lisp.push("begin");
        for (int number = 1; number < 40; number++) {
            lisp.x.pushInteger(number);
        }
        lisp.x.makeList(40);
        check.due("begin of 39", lisp.x.evaluate(), 41);
        check.due("the last one's value", lisp.x.value(0), 39);
    }

    private static void beginFromTheFirstOn() {
        Lisp lisp = new Lisp(check);
        lisp.givesInteger("(begin (define a 1) (define a (add a a)) (define a (add a a)) a)", 4);
        lisp.failsAfter("(begin (define b 1) z (define b 2))", UNBOUND, 6, 2, 1);
        lisp.givesInteger("b", 1);
    }

    // ---- quote and scope

    /** "the operand itself" */
    private static void quoteOfEachKind() {
        for (int kind = 0; kind < Lisp.OF_KIND.length; kind++) {
            Lisp lisp = new Lisp(check);
            lisp.push(Lisp.OF_KIND[kind]);
            lisp.push("quote");
            lisp.x.pushCopy(1);
            lisp.x.makeList(2);
            check.due("quote of " + Lisp.OF_KIND[kind], lisp.x.evaluate(), 2);
            check.due("the operand itself", lisp.x.areSame(0, 1), 1);
            check.due("its kind", lisp.x.kind(0), kind);
        }
        new Lisp(check).costs("(quote z)", 2, 1, 0);
    }

    private static void scopeOfCall() {
        Lisp lisp = new Lisp(check);
        lisp.push("#env");
        lisp.evaluate("(scope)");
        check.due("the present environment", lisp.x.areSame(0, 1), 1);
        lisp.evaluate("((lambda (a b) (scope)) 1 2)");
        check.due("the function's own", lisp.x.bindingCount(0), 2);
        lisp.costs("(scope)", 2, 1, 0);
    }
}
