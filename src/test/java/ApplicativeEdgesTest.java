/** The edges of the applicatives 10 to 25: numbers and kinds of operands, and ranges of results. */
public final class ApplicativeEdgesTest {
    private static final int UNBOUND = ScopeInterpreter.UNBOUND;
    private static final int NOT_COMBINER = ScopeInterpreter.NOT_COMBINER;
    private static final int BAD_OPERANDS = ScopeInterpreter.BAD_OPERANDS;
    private static final int OVERFLOW = ScopeInterpreter.OVERFLOW;
    private static final long GREATEST = 1000000000000000L;
    private static final String G = "1000000000000000";
    private static final String L = "-1000000000000000";
    private static final Check check = new Check();
    private static final Twin twin = new Twin(check);

    public static void main(String[] args) {
        otherNumbersOfOperands();
        operandsThatAreNoList();
        operandsOfOtherKinds();
        kindsAreCheckedFirst();
        sumOfAnyNumber();
        sumOutOfRange();
        productOfAnyNumber();
        productOutOfRange();
        differenceOutOfRange();
        lessAtTheEdge();
        sameOfEachKind();
        consOfEachKind();
        carAndCdrOfPair();
        nilAndPairOfEachKind();
        evalOfEachKind();
        evalInEnvironment();
        wrapOfCombiners();
        unwrapOfApplicatives();
        environmentOfNoneOrOne();
        applyToAnyValue();
        applyInEmptyEnvironment();
        listOfAnyNumber();
        check.finish();
    }

    private static void overflows(String text, int operands) {
        twin.fails(text, OVERFLOW, 2 + operands, 1, operands);
    }

    // ---- the operands

    private static void otherNumbersOfOperands() {
        String[][] operands = {
            {"subtract", "1", "2"}, {"less", "1", "2"}, {"same", "1", "2"}, {"cons", "1", "2"},
            {"car", "@l"}, {"cdr", "@l"}, {"is-nil", "1"}, {"is-pair", "1"}, {"eval", "1", "#env"},
            {"wrap", "@if"}, {"unwrap", "@add"}, {"apply", "@list", "@l"}
        };
        for (String[] parts : operands) {
            StringBuilder text = new StringBuilder("((unwrap " + parts[0] + ")");
            Twin.Setup setup = lisp -> lisp.run("(define l (quote (1)))");
            for (int count = 1; count < parts.length; count++) {
                twin.fails(setup, text + ")", BAD_OPERANDS, 4, 2, 1);
                text.append(' ').append(parts[count]);
            }
            Lisp lisp = new Lisp(check);
            setup.build(lisp);
            check.due(text + ")", lisp.evaluate(text + ")") > 0);
            twin.fails(setup, text + " 1)", BAD_OPERANDS, 4, 2, 1);
            twin.fails(setup, text + " ())", BAD_OPERANDS, 4, 2, 1);
            twin.fails(setup, text + " #env #env)", BAD_OPERANDS, 4, 2, 1);
        }
        twin.fails("(subtract 1)", BAD_OPERANDS, 3, 1, 1);
        twin.fails("(subtract 1 2 3)", BAD_OPERANDS, 5, 1, 3);
        twin.fails("(environment #env #env)", BAD_OPERANDS, 4, 1, 2);
    }

    private static void operandsThatAreNoList() {
        for (int symbol = 10; symbol <= 25; symbol++) {
            String name = "(unwrap s" + symbol + ")";
            twin.fails("(" + name + " . 5)", BAD_OPERANDS, 4, 2, 1);
            twin.fails("(" + name + " 1 . 5)", BAD_OPERANDS, 4, 2, 1);
            twin.fails("(" + name + " 1 2 . #inert)", BAD_OPERANDS, 4, 2, 1);
            twin.fails("(" + name + " #env . 5)", BAD_OPERANDS, 4, 2, 1);
            twin.fails("(" + name + " 1 #env . b)", BAD_OPERANDS, 4, 2, 1);
        }
    }

    /** Each place of these takes values of some kinds alone; the other places have good values. */
    private static void operandsOfOtherKinds() {
        refuses("(add ", ")", 0, 0);
        refuses("(add 1 ", " 2)", 2, 0);
        refuses("(multiply ", ")", 0, 0);
        refuses("(multiply 0 ", ")", 1, 0);
        refuses("(subtract ", " 1)", 1, 0);
        refuses("(subtract 1 ", ")", 1, 0);
        refuses("(less ", " 1)", 1, 0);
        refuses("(less 1 ", ")", 1, 0);
        refuses("(car ", ")", 0, Lisp.PAIR);
        refuses("(cdr ", ")", 0, Lisp.PAIR);
        refuses("(eval 1 ", ")", 1, Lisp.ENVIRONMENT);
        refuses("(wrap ", ")", 0, Lisp.OPERATIVE, Lisp.APPLICATIVE);
        refuses("(unwrap ", ")", 0, Lisp.APPLICATIVE);
        refuses("(environment ", ")", 0, Lisp.ENVIRONMENT);
        refuses("(apply ", " 1)", 1, Lisp.APPLICATIVE);
    }

    private static void refuses(String before, String after, int otherOperands, int... goodKinds) {
        for (int kind = 0; kind < Lisp.OF_KIND.length; kind++) {
            boolean isGood = false;
            for (int good : goodKinds) {
                isGood |= good == kind;
            }
            String text = before + "(quote " + Lisp.OF_KIND[kind] + ")" + after;
            if (!isGood) {
                twin.fails(text, BAD_OPERANDS, 4 + otherOperands, 2, 1 + otherOperands);
            } else if (!before.startsWith("(apply")) {
                check.due(text, new Lisp(check).evaluate(text) > 0);
            }
        }
    }

    /** "all of them are checked before anything else is done" */
    private static void kindsAreCheckedFirst() {
        twin.fails("(add " + G + " 1 #t)", BAD_OPERANDS, 5, 1, 3);
        twin.fails("(multiply " + G + " 2 ())", BAD_OPERANDS, 5, 1, 3);
        twin.fails("(subtract " + G + " (scope))", BAD_OPERANDS, 5, 2, 2);
        twin.fails("(eval z 5)", UNBOUND, 3, 1, 0);
        twin.fails("(eval (quote z) 5)", BAD_OPERANDS, 5, 2, 2);
        twin.fails("(eval (quote (define b 1)) ())", BAD_OPERANDS, 5, 2, 2);
        twin.fails("(apply if 5)", BAD_OPERANDS, 4, 1, 2);
    }

    // ---- add, multiply, subtract, less

    private static void sumOfAnyNumber() {
        Lisp lisp = new Lisp(check);
        lisp.givesInteger("(add)", 0);
        lisp.givesInteger("(add -5)", -5);
        lisp.givesInteger("(add 1 2)", 3);
        lisp.givesInteger("(add 1 2 3 4 5 6 7 8 9 10)", 55);
        lisp.givesInteger("(add " + G + " " + L + ")", 0);
    }

    private static void sumOutOfRange() {
        Lisp lisp = new Lisp(check);
        lisp.givesInteger("(add " + G + ")", GREATEST);
        lisp.givesInteger("(add " + G + " 0)", GREATEST);
        lisp.givesInteger("(add 999999999999999 1)", GREATEST);
        lisp.givesInteger("(add " + L + " 0)", -GREATEST);
        lisp.givesInteger("(add -999999999999999 -1)", -GREATEST);
        overflows("(add " + G + " 1)", 2);
        overflows("(add 1 " + G + ")", 2);
        overflows("(add " + L + " -1)", 2);
        overflows("(add " + G + " " + G + ")", 2);
        lisp.givesInteger("(add -1 " + G + " 1)", GREATEST);
        overflows("(add " + G + " 1 -1)", 3);
        overflows("(add " + L + " -1 1)", 3);
        overflows("(add 5 -5 " + G + " 1 " + L + ")", 5);
    }

    private static void productOfAnyNumber() {
        Lisp lisp = new Lisp(check);
        lisp.givesInteger("(multiply)", 1);
        lisp.givesInteger("(multiply -5)", -5);
        lisp.givesInteger("(multiply 0)", 0);
        lisp.givesInteger("(multiply 2 3)", 6);
        lisp.givesInteger("(multiply 1 2 3 4 5 6 7 8 9 10)", 3628800);
        lisp.givesInteger("(multiply -1 -1 -1)", -1);
    }

    private static void productOutOfRange() {
        Lisp lisp = new Lisp(check);
        lisp.givesInteger("(multiply " + G + " 1)", GREATEST);
        lisp.givesInteger("(multiply " + G + " -1)", -GREATEST);
        lisp.givesInteger("(multiply " + L + " -1)", GREATEST);
        lisp.givesInteger("(multiply 100000000 10000000)", GREATEST);
        lisp.givesInteger("(multiply -100000000 10000000)", -GREATEST);
        lisp.givesInteger("(multiply 31622776 31622776)", 999999961946176L);
        lisp.givesInteger("(multiply " + G + " 0 " + G + " " + G + ")", 0);
        overflows("(multiply " + G + " 2)", 2);
        overflows("(multiply 2 " + L + ")", 2);
        overflows("(multiply 31622777 31622777)", 2);
        overflows("(multiply -31622777 31622777)", 2);
        overflows("(multiply 31622777 -31622777)", 2);
        overflows("(multiply 3 333333333333334)", 2);
        overflows("(multiply " + G + " " + G + ")", 2);
        overflows("(multiply " + L + " " + L + ")", 2);
        overflows("(multiply " + G + " 2 0)", 3);
        overflows("(multiply " + L + " 2 0)", 3);
        overflows("(multiply 4294967296 4294967296)", 2);
        overflows("(multiply 8589934592 4294967296 0)", 3);
        lisp.givesInteger("(multiply 3 333333333333333)", 999999999999999L);
        lisp.givesInteger("(multiply -3 333333333333333)", -999999999999999L);
    }

    private static void differenceOutOfRange() {
        Lisp lisp = new Lisp(check);
        lisp.givesInteger("(subtract 5 7)", -2);
        lisp.givesInteger("(subtract 0 " + L + ")", GREATEST);
        lisp.givesInteger("(subtract 0 " + G + ")", -GREATEST);
        lisp.givesInteger("(subtract -1 999999999999999)", -GREATEST);
        lisp.givesInteger("(subtract 999999999999999 -1)", GREATEST);
        overflows("(subtract " + G + " -1)", 2);
        overflows("(subtract " + L + " 1)", 2);
        overflows("(subtract 1 " + L + ")", 2);
        overflows("(subtract -1 " + G + ")", 2);
        overflows("(subtract " + G + " " + L + ")", 2);
    }

    private static void lessAtTheEdge() {
        Lisp lisp = new Lisp(check);
        lisp.givesBoolean("(less 1 2)", true);
        lisp.givesBoolean("(less 2 2)", false);
        lisp.givesBoolean("(less 2 1)", false);
        lisp.givesBoolean("(less -2 -1)", true);
        lisp.givesBoolean("(less -1 0)", true);
        lisp.givesBoolean("(less 0 -1)", false);
        lisp.givesBoolean("(less " + L + " " + G + ")", true);
        lisp.givesBoolean("(less " + G + " " + L + ")", false);
        lisp.givesBoolean("(less 999999999999999 " + G + ")", true);
        lisp.givesBoolean("(less " + G + " " + G + ")", false);
    }

    // ---- same, cons, car, cdr, is nil, is pair

    private static void sameOfEachKind() {
        for (int one = 0; one < Lisp.OF_KIND.length; one++) {
            for (int other = 0; other < Lisp.OF_KIND.length; other++) {
                String text = "(same (quote " + Lisp.OF_KIND[one] + ") (quote " + Lisp.OF_KIND[other] + "))";
                new Lisp(check).givesBoolean(text, one == other && one != Lisp.PAIR);
            }
        }
        Lisp lisp = new Lisp(check);
        lisp.givesBoolean("(same 5 6)", false);
        lisp.givesBoolean("(same #t #f)", false);
        lisp.givesBoolean("(same (quote a) (quote b))", false);
        lisp.givesBoolean("((lambda (p) (same p p)) (cons 1 2))", true);
        lisp.givesBoolean("((lambda (p) (same p (cons 1 2))) (cons 1 2))", false);
        lisp.givesBoolean("(same (environment) (environment))", false);
        lisp.givesBoolean("(same (vau a b c) (vau a b c))", false);
        lisp.givesBoolean("(same (wrap if) (wrap if))", false);
        lisp.givesBoolean("(same if vau)", false);
        lisp.givesBoolean("(same add multiply)", false);
        lisp.givesBoolean("(same add (unwrap add))", false);
    }

    private static void consOfEachKind() {
        for (String text : Lisp.OF_KIND) {
            Lisp lisp = new Lisp(check);
            lisp.run("(define b (quote " + text + "))");
            lisp.givesBoolean("(same (car (cons b 7)) b)", true);
            lisp.givesBoolean("(same (cdr (cons 7 b)) b)", true);
            lisp.givesInteger("(car (cons 7 b))", 7);
            lisp.givesInteger("(cdr (cons b 7))", 7);
        }
        new Lisp(check).costs("(cons 1 2)", 4, 1, 3);
    }

    private static void carAndCdrOfPair() {
        Lisp lisp = new Lisp(check);
        lisp.givesInteger("(car (quote (1 2 3)))", 1);
        lisp.givesList("(cdr (quote (1 2 3)))", 2, 3);
        lisp.givesInteger("(cdr (quote (1 . 2)))", 2);
        lisp.givesKind("(cdr (quote (1)))", Lisp.NIL);
        lisp.givesKind("(car (quote (())))", Lisp.NIL);
        lisp.costs("(car (quote (1)))", 4, 2, 1);
        twin.fails("(car ())", BAD_OPERANDS, 3, 1, 1);
        twin.fails("(cdr ())", BAD_OPERANDS, 3, 1, 1);
    }

    private static void nilAndPairOfEachKind() {
        for (int kind = 0; kind < Lisp.OF_KIND.length; kind++) {
            Lisp lisp = new Lisp(check);
            lisp.givesBoolean("(is-nil (quote " + Lisp.OF_KIND[kind] + "))", kind == Lisp.NIL);
            lisp.givesBoolean("(is-pair (quote " + Lisp.OF_KIND[kind] + "))", kind == Lisp.PAIR);
        }
        Lisp lisp = new Lisp(check);
        lisp.givesBoolean("(is-pair (quote (1 . 2)))", true);
        lisp.givesBoolean("(is-nil 0)", false);
        lisp.givesBoolean("(is-nil #f)", false);
    }

    // ---- eval, wrap, unwrap, environment, apply, list

    private static void evalOfEachKind() {
        for (int kind = 0; kind < Lisp.OF_KIND.length; kind++) {
            if (kind != 2 && kind != Lisp.PAIR) {
                Lisp lisp = new Lisp(check);
                lisp.costs("(eval (quote " + Lisp.OF_KIND[kind] + ") #env)", 6, 2, 2);
                lisp.givesKind("(eval (quote " + Lisp.OF_KIND[kind] + ") #env)", kind);
            }
        }
        twin.fails("(eval (quote z) #env)", UNBOUND, 6, 2, 2);
        twin.fails("(eval (quote (5)) #env)", NOT_COMBINER, 7, 2, 2);
    }

    /** "evaluates the expression in the environment, without a frame" */
    private static void evalInEnvironment() {
        Lisp lisp = new Lisp(check);
        lisp.run("(define a 1)");
        lisp.run("(define e (environment (scope)))");
        lisp.run("(set e a 2)");
        lisp.givesInteger("(eval (quote a) e)", 2);
        lisp.givesInteger("(eval (quote (add a a)) e)", 4);
        lisp.givesBoolean("(same (eval (quote (scope)) e) e)", true);
        lisp.givesInteger("(add (eval (quote a) e) a)", 3);
        lisp.fails("(eval (quote (add 1 2)) (environment))", UNBOUND);
        lisp.costs("(eval (quote (add)) e)", 7, 2, 2);
        lisp.costs("(eval 5 #env)", 5, 1, 2);
        lisp.costs("(eval (list eval (list eval 5 e) e) e)", 21, 3, 12);
    }

    private static void wrapOfCombiners() {
        Lisp lisp = new Lisp(check);
        lisp.costs("(wrap if)", 3, 1, 2);
        lisp.costs("(wrap add)", 3, 1, 2);
        lisp.evaluate("add");
        lisp.evaluate("(wrap add)");
        check.due("a new applicative", lisp.x.areSame(0, 1), 0);
        lisp.x.pushPart(0, 0);
        check.due("with this underlying combiner", lisp.x.areSame(0, 2), 1);
        lisp.givesInteger("((wrap if) (less 1 2) 3 4)", 3);
        lisp.fails("((wrap if) #t 3 z)", UNBOUND);
        lisp.givesInteger("((wrap (vau (a) #inert a)) (add 1 2))", 3);
        lisp.givesInteger("((wrap (wrap quote)) (quote (add 1 2)))", 3);
    }

    private static void unwrapOfApplicatives() {
        Lisp lisp = new Lisp(check);
        lisp.givesKind("(unwrap add)", Lisp.OPERATIVE);
        lisp.givesBoolean("(same (unwrap add) (unwrap add))", true);
        lisp.givesBoolean("(same (unwrap (wrap if)) if)", true);
        lisp.givesBoolean("(same (unwrap (wrap add)) add)", true);
        lisp.givesKind("(unwrap (lambda a a))", Lisp.OPERATIVE);
        lisp.costs("(unwrap add)", 3, 1, 1);
        lisp.fails("(unwrap (unwrap add))", BAD_OPERANDS);
        lisp.givesInteger("((unwrap add) 1 2)", 3);
        lisp.fails("((unwrap add) 1 (add 1 1))", BAD_OPERANDS);
    }

    /** "none, or one environment" */
    private static void environmentOfNoneOrOne() {
        Lisp lisp = new Lisp(check);
        lisp.costs("(environment)", 2, 1, 1);
        lisp.costs("(environment #env)", 3, 1, 2);
        lisp.evaluate("(environment)");
        check.due("bindings", lisp.x.bindingCount(0), 0);
        check.due("no parent", lisp.x.pushPart(0, 0), ScopeInterpreter.NONE);
        lisp.push("#env");
        lisp.evaluate("(environment #env)");
        check.due("bindings", lisp.x.bindingCount(0), 0);
        check.due("a parent", lisp.x.pushPart(0, 0), 4);
        check.due("the one that was given", lisp.x.areSame(0, 2), 1);
        twin.fails("(environment #env #env)", BAD_OPERANDS, 4, 1, 2);
        twin.fails("(environment ())", BAD_OPERANDS, 3, 1, 1);
    }

    /** "combines the underlying combiner of the applicative with the value as operands" */
    private static void applyToAnyValue() {
        for (int kind = 0; kind < Lisp.OF_KIND.length; kind++) {
            Lisp lisp = new Lisp(check);
            lisp.run("(define f (lambda b b))");
            lisp.costs("(apply f (quote " + Lisp.OF_KIND[kind] + "))", 6, 2, 5);
            lisp.givesKind("(apply f (quote " + Lisp.OF_KIND[kind] + "))", kind);
            if (kind != Lisp.NIL && kind != Lisp.PAIR) {
                lisp.fails("(apply list (quote " + Lisp.OF_KIND[kind] + "))", BAD_OPERANDS);
                lisp.fails("(apply (wrap list) (quote " + Lisp.OF_KIND[kind] + "))", BAD_OPERANDS);
            }
        }
        Lisp lisp = new Lisp(check);
        lisp.givesInteger("(apply add (list 1 2))", 3);
        lisp.givesInteger("(apply add ())", 0);
        lisp.fails("(apply add (cons 1 2))", BAD_OPERANDS);
        lisp.fails("(apply subtract (list 1))", BAD_OPERANDS);
        lisp.fails("(apply add (list " + G + " 1))", OVERFLOW);
        lisp.costs("(apply add ())", 4, 1, 3);
    }

    /** "creates a new environment without parent" */
    private static void applyInEmptyEnvironment() {
        Lisp lisp = new Lisp(check);
        lisp.run("(define a 5)");
        lisp.evaluate("(apply (wrap scope) ())");
        check.due("bindings", lisp.x.bindingCount(0), 0);
        check.due("no parent", lisp.x.pushPart(0, 0), ScopeInterpreter.NONE);
        lisp.evaluate("(apply (wrap scope) ())");
        check.due("each call has another one", lisp.x.areSame(0, 1), 0);
        lisp.evaluate("(apply (wrap (vau #inert b b)) ())");
        check.due("it is the environment of the call", lisp.x.bindingCount(0), 0);
        lisp.fails("(apply (wrap list) (quote (a)))", UNBOUND);
        lisp.fails("(apply (wrap list) (quote (add)))", UNBOUND);
        lisp.givesList("(apply (wrap list) (quote (3 4)))", 3, 4);
        lisp.fails("(apply (wrap if) (quote (#t a 3)))", UNBOUND);
        lisp.givesInteger("(apply (wrap if) (quote (#t 2 a)))", 2);
        lisp.givesInteger("(begin (apply list ()) a)", 5);
    }

    /** "the list of operands itself" */
    private static void listOfAnyNumber() {
        Lisp lisp = new Lisp(check);
        lisp.costs("(list)", 2, 1, 0);
        lisp.givesKind("(list)", Lisp.NIL);
        lisp.costs("(list 1)", 3, 1, 1);
        lisp.givesList("(list 1)", 1);
        lisp.givesList("(list 1 2 3 4 5 6)", 1, 2, 3, 4, 5, 6);
        lisp.push("(1 2)");
        lisp.evaluate("(unwrap list)");
        lisp.x.pushCopy(1);
        lisp.x.makePair();
        check.due("evaluate (list-operative 1 2)", lisp.x.evaluate(), 2);
        check.due("the operands themselves", lisp.x.areSame(0, 1), 1);
    }
}
