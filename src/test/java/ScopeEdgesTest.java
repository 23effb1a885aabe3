/** The edges of "Environments", and of promises 6, 21 and 22, about the present environment. */
public final class ScopeEdgesTest {
    private static final int UNBOUND = ScopeInterpreter.UNBOUND;
    private static final int TOO_FEW = ScopeInterpreter.TOO_FEW;
    private static final int WRONG_KIND = ScopeInterpreter.WRONG_KIND;
    private static final Check check = new Check();
    private static final Twin twin = new Twin(check);

    public static void main(String[] args) {
        groundBindings();
        groundHasNoParent();
        userIsChildOfGround();
        ownBindingComesFirst();
        unboundWithoutParent();
        unboundEverywhere();
        bindingIsOwn();
        bindingIsChanged();
        bindingInGround();
        distantParent();
        allSymbolsInOneEnvironment();
        presentIsUserAtFirst();
        useOfTooFew();
        useOfOtherKinds();
        useOfEnvironment();
        useOfUser();
        presentIsPushed();
        check.finish();
    }

    /** "the symbols 0 to 7 and 10 to 25 are bound" */
    private static void groundBindings() {
        ScopeInterpreter x = new ScopeInterpreter();
        x.pushEnvironment();
        x.pushPart(0, 0);
        for (int symbol = 0; symbol < 100; symbol++) {
            boolean isOperative = symbol <= 7;
            boolean isApplicative = symbol >= 10 && symbol <= 25;
            int answer = x.pushBinding(0, symbol);
            check.due("pushBinding(0, " + symbol + ")", answer, isOperative || isApplicative ? 3 : UNBOUND);
            if (answer > 0) {
                check.due("kind of " + symbol, x.kind(0), isOperative ? Lisp.OPERATIVE : Lisp.APPLICATIVE);
                x.drop(1);
            }
        }
    }

    private static void groundHasNoParent() {
        ScopeInterpreter x = new ScopeInterpreter();
        x.pushEnvironment();
        x.pushPart(0, 0);
        check.due("parent of ground", x.pushPart(0, 0), ScopeInterpreter.NONE);
        x.useEnvironment();
        x.pushSymbol(40);
        check.due("unbound in ground", x.evaluate(), UNBOUND);
    }

    private static void userIsChildOfGround() {
        Lisp lisp = new Lisp(check);
        lisp.push("#env");
        lisp.x.pushPart(0, 0);
        check.due("ground is not user", lisp.x.areSame(0, 1), 0);
        check.due("bindings of user", lisp.x.bindingCount(1), 0);
        check.due("bindings of ground", lisp.x.bindingCount(0), 24);
        lisp.evaluate("add");
        lisp.x.pushBinding(1, 10);
        check.due("user sees ground's add", lisp.x.areSame(0, 1), 1);
    }

    private static void ownBindingComesFirst() {
        Lisp lisp = new Lisp(check);
        lisp.run("(define a 1)");
        lisp.run("(define b 2)");
        lisp.run("(define e (environment (scope)))");
        lisp.run("(set e a 3)");
        lisp.givesInteger("(eval (quote a) e)", 3);
        lisp.givesInteger("(eval (quote b) e)", 2);
        lisp.givesInteger("a", 1);
        lisp.evaluate("e");
        check.due("pushBinding(0, a)", lisp.x.pushBinding(0, 40), 2);
        check.due("own", lisp.x.value(0), 3);
        check.due("pushBinding(1, b)", lisp.x.pushBinding(1, 41), 3);
        check.due("the parent's", lisp.x.value(0), 2);
    }

    private static void unboundWithoutParent() {
        Lisp lisp = new Lisp(check);
        lisp.run("(define a 1)");
        lisp.run("(define e (environment))");
        lisp.fails("(eval (quote a) e)", UNBOUND);
        lisp.fails("(eval (quote add) e)", UNBOUND);
        lisp.run("(set e b 1)");
        lisp.fails("(eval (quote a) e)", UNBOUND);
        lisp.givesInteger("(eval (quote b) e)", 1);
    }

    private static void unboundEverywhere() {
        Lisp lisp = new Lisp(check);
        lisp.fails("(eval (quote a) (environment (environment (environment (scope)))))", UNBOUND);
        String[] unbound = {"s8", "s9", "s26", "s40", "s99"};
        for (String text : unbound) {
            lisp.failsAfter(text, UNBOUND, 1, 0, 0);
        }
    }

    /** "to change its own binding, or to create one if there is none" */
    private static void bindingIsOwn() {
        Lisp lisp = new Lisp(check);
        lisp.run("(define a 1)");
        lisp.run("(define e (environment (scope)))");
        lisp.costs("(set e a 2)", 4, 1, 1);
        lisp.givesInteger("a", 1);
        lisp.givesInteger("(eval (quote a) e)", 2);
        lisp.evaluate("e");
        check.due("a new binding", lisp.x.bindingCount(0), 1);
        lisp.costs("(define add 9)", 3, 1, 1);
        lisp.push("#env");
        lisp.x.pushPart(0, 0);
        lisp.x.pushBinding(0, 10);
        check.due("ground's add stays", lisp.x.kind(0), Lisp.APPLICATIVE);
    }

    private static void bindingIsChanged() {
        Lisp lisp = new Lisp(check);
        lisp.run("(define a 1)");
        lisp.run("(define b 2)");
        lisp.run("(define c 3)");
        lisp.costs("(define b 20)", 3, 1, 0);
        lisp.costs("(define a 10)", 3, 1, 0);
        lisp.costs("(define c 30)", 3, 1, 0);
        lisp.givesList("(list a b c)", 10, 20, 30);
        lisp.push("#env");
        check.due("bindings", lisp.x.bindingCount(0), 3);
    }

    private static void bindingInGround() {
        Lisp lisp = new Lisp(check);
        lisp.push("#env");
        lisp.x.pushPart(0, 0);
        lisp.x.useEnvironment();
        lisp.run("(define a 7)");
        lisp.run("(define multiply add)");
        lisp.x.useUser();
        lisp.givesInteger("a", 7);
        lisp.givesInteger("(multiply 3 4)", 7);
        lisp.push("#env");
        check.due("user's bindings", lisp.x.bindingCount(0), 0);
    }

    /** A chain of environments has no end that the document names, but the heap's. */
    private static void distantParent() {
        Lisp lisp = new Lisp(check);
        lisp.run("(define a 12)");
        lisp.run("(define e (environment (scope)))");
        lisp.push("(define e (environment e))");
        lisp.x.pushSymbol(Lisp.symbol("begin"));
        for (int count = 0; count < 30; count++) {
            lisp.x.pushCopy(count + 1);
        }
        lisp.x.makeList(31);
        for (int round = 0; round < 40; round++) {
            lisp.x.pushCopy(0);
            check.due("30 environments more", lisp.x.evaluate(), 2 + 30 * 5);
            lisp.x.drop(1);
        }
        lisp.givesInteger("(eval (quote a) e)", 12);
        lisp.fails("(eval (quote z) e)", UNBOUND);
        lisp.evaluate("e");
        lisp.x.useEnvironment();
        lisp.givesInteger("(add a 1)", 13);
    }

    /** Symbol 0 is bound first, symbol 99 last; (@scope) works where "scope" has another value. */
    private static void allSymbolsInOneEnvironment() {
        Lisp lisp = new Lisp(check);
        lisp.x.pushSymbol(Lisp.symbol("vau"));
        pushChain(99, lisp.x::pushSymbol, lisp.x);
        lisp.push("#inert");
        lisp.push("(@scope)");
        lisp.x.makeList(4);
        pushChain(99, lisp.x::pushInteger, lisp.x);
        lisp.x.makePair();
        check.due("evaluate()", lisp.x.evaluate(), 5);
        check.due("bindings", lisp.x.bindingCount(0), 100);
        int[] symbols = {0, 7, 8, 9, 26, 50, 98, 99};
        for (int symbol : symbols) {
            lisp.x.pushBinding(0, symbol);
            check.due("value of symbol " + symbol, lisp.x.value(0), symbol);
            lisp.x.drop(1);
        }
    }

    private interface Push {
        int push(int number);
    }

    /** Pushes (((0 . 1) . 2) .. last), so that the numbers stand in order from left to right. */
    private static void pushChain(int last, Push numbers, ScopeInterpreter x) {
        numbers.push(0);
        for (int number = 1; number <= last; number++) {
            numbers.push(number);
            x.makePair();
        }
    }

    // ---- the present environment

    private static void presentIsUserAtFirst() {
        Lisp lisp = new Lisp(check);
        lisp.push("#env");
        check.due("useUser() of a new object", lisp.x.useUser(), 0);
        lisp.push("#env");
        check.due("the same environment", lisp.x.areSame(0, 1), 1);
        lisp.evaluate("(scope)");
        check.due("evaluations are in it", lisp.x.areSame(0, 1), 1);
    }

    /** useEnvironment: TOO_FEW; WRONG_KIND if it is not an environment */
    private static void useOfTooFew() {
        twin.changesNothing("useEnvironment() of none", lisp -> { }, ScopeInterpreter::useEnvironment, TOO_FEW);
        twin.changesNothing("useEnvironment() of none, not user", lisp -> {
            lisp.evaluate("(environment)");
            lisp.x.useEnvironment();
        }, ScopeInterpreter::useEnvironment, TOO_FEW);
    }

    private static void useOfOtherKinds() {
        String[] others = {"5", "#f", "a", "()", "(1)", "@if", "@add", "#inert"};
        twin.changesNothing("useEnvironment()", others, ScopeInterpreter::useEnvironment, WRONG_KIND);
        twin.changesNothing("an environment below", lisp -> {
            lisp.evaluate("(environment)");
            lisp.push("5");
        }, ScopeInterpreter::useEnvironment, WRONG_KIND);
    }

    private static void useOfEnvironment() {
        Lisp lisp = new Lisp(check);
        Lisp.fillStack(lisp.x);
        lisp.x.drop(2);
        lisp.evaluate("(environment)");
        check.due("useEnvironment()", lisp.x.useEnvironment(), 38);
        check.due("size()", lisp.x.size(), 38);
        lisp.push("#env");
        check.due("useEnvironment(), the same", lisp.x.useEnvironment(), 38);
        lisp.x.drop(38);
        lisp.fails("(add 1 2)", UNBOUND);
        lisp.givesInteger("5", 5);
        lisp.x.pushEnvironment();
        check.due("useEnvironment() of the last value", lisp.x.useEnvironment(), 0);
    }

    /** useUser: "1 if this is a change, otherwise 0" */
    private static void useOfUser() {
        Lisp lisp = new Lisp(check);
        lisp.push("#env");
        lisp.evaluate("(environment (scope))");
        lisp.x.useEnvironment();
        lisp.run("(define a 3)");
        check.due("useUser(), a change", lisp.x.useUser(), 1);
        check.due("useUser(), no change", lisp.x.useUser(), 0);
        lisp.fails("a", UNBOUND);
        check.due("useEnvironment(), user", lisp.x.useEnvironment(), 0);
        check.due("useUser(), still no change", lisp.x.useUser(), 0);
        lisp.push("#env");
        lisp.x.pushPart(0, 0);
        lisp.x.useEnvironment();
        check.due("useUser(), from ground", lisp.x.useUser(), 1);
        check.due("size()", lisp.x.size(), 1);
    }

    private static void presentIsPushed() {
        Lisp lisp = new Lisp(check);
        lisp.evaluate("(environment (scope))");
        lisp.x.pushCopy(0);
        lisp.x.useEnvironment();
        check.due("pushEnvironment()", lisp.x.pushEnvironment(), 2);
        check.due("it is the one in use", lisp.x.areSame(0, 1), 1);
        lisp.run("(define a 3)");
        check.due("evaluations change it", lisp.x.bindingCount(0), 1);
        lisp.fails("(begin (define b 4) z)", UNBOUND);
        check.due("also those that fail", lisp.x.bindingCount(0), 2);
        lisp.push("#env");
        check.due("and leave it in use", lisp.x.areSame(0, 1), 1);
    }
}
