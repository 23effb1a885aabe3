/** Promises 14 to 19: size, kind, value, areSame, length and bindingCount. */
public final class ReadingTest {
    private static final int BAD_VALUE = ScopeInterpreter.BAD_VALUE;
    private static final int TOO_FEW = ScopeInterpreter.TOO_FEW;
    private static final int WRONG_KIND = ScopeInterpreter.WRONG_KIND;
    private static final long NO_VALUE = ScopeInterpreter.NO_VALUE;
    private static final Check check = new Check();

    public static void main(String[] args) {
        sizes();
        kinds();
        values();
        sameness();
        samenessOfObjects();
        lengths();
        bindingCounts();
        check.finish();
    }

    private static void sizes() {
        Lisp lisp = new Lisp(check);
        check.due("size(), new", lisp.x.size(), 0);
        lisp.x.pushInteger(1);
        lisp.x.pushInteger(2);
        check.due("size()", lisp.x.size(), 2);
        lisp.x.makePair();
        check.due("size() after makePair()", lisp.x.size(), 1);
        lisp.x.evaluate();
        check.due("size() after a failure", lisp.x.size(), 0);
    }

    private static void kinds() {
        Lisp lisp = new Lisp(check);
        check.due("kind(0), empty", lisp.x.kind(0), TOO_FEW);
        check.due("kind(-1), empty", lisp.x.kind(-1), BAD_VALUE);
        String[] texts = {
            "5", "#f", "(quote s99)", "()", "(cons 1 2)", "(vau a b c)", "(lambda a b)", "(scope)", "#inert"
        };
        for (int kind = 0; kind < texts.length; kind++) {
            lisp.givesKind(texts[kind], kind);
        }
        lisp.givesKind("if", 5);
        lisp.givesKind("add", 6);
        lisp.push("5");
        lisp.push("#t");
        check.due("kind(1)", lisp.x.kind(1), 0);
        check.due("kind(2)", lisp.x.kind(2), TOO_FEW);
        check.due("kind(max)", lisp.x.kind(Integer.MAX_VALUE), TOO_FEW);
        check.due("kind(min)", lisp.x.kind(Integer.MIN_VALUE), BAD_VALUE);
    }

    private static void values() {
        Lisp lisp = new Lisp(check);
        ScopeInterpreter x = lisp.x;
        check.due("value(0), empty", x.value(0), NO_VALUE);
        check.due("value(-1)", x.value(-1), NO_VALUE);
        String[] without = {"()", "(1)", "#inert"};
        for (String text : without) {
            lisp.push(text);
            check.due("value(0) of " + text, x.value(0), NO_VALUE);
        }
        String[] combiners = {"if", "add", "(vau a b c)", "(lambda a b)", "(scope)"};
        for (String text : combiners) {
            lisp.evaluate(text);
            check.due("value(0) of " + text, x.value(0), NO_VALUE);
        }
        x.reset();
        x.pushInteger(-12);
        x.pushBoolean(true);
        x.pushSymbol(31);
        check.due("value(2)", x.value(2), -12);
        check.due("value(1)", x.value(1), 1);
        check.due("value(0)", x.value(0), 31);
        check.due("value(3)", x.value(3), NO_VALUE);
        check.due("value(max)", x.value(Integer.MAX_VALUE), NO_VALUE);
        check.due("value(min)", x.value(Integer.MIN_VALUE), NO_VALUE);
    }

    private static void sameness() {
        ScopeInterpreter x = new ScopeInterpreter();
        check.due("areSame(0, 0), empty", x.areSame(0, 0), TOO_FEW);
        check.due("areSame(-1, 0), empty", x.areSame(-1, 0), BAD_VALUE);
        check.due("areSame(0, -1), empty", x.areSame(0, -1), BAD_VALUE);
        x.pushInteger(1);
        x.pushBoolean(true);
        x.pushSymbol(1);
        x.pushEmpty(false);
        x.pushEmpty(true);
        x.pushInteger(0);
        x.pushBoolean(false);
        x.pushSymbol(0);
        for (int depth = 0; depth < 8; depth++) {
            for (int other = 0; other < 8; other++) {
                check.due("areSame(" + depth + ", " + other + ")", x.areSame(depth, other), depth == other ? 1 : 0);
            }
        }
        x.pushInteger(1);
        check.due("equal integers", x.areSame(0, 8), 1);
        x.pushBoolean(true);
        check.due("equal booleans", x.areSame(0, 8), 1);
        x.pushSymbol(1);
        check.due("equal symbols", x.areSame(0, 8), 1);
        x.pushEmpty(false);
        check.due("both nil", x.areSame(8, 0), 1);
        x.pushEmpty(true);
        check.due("both inert", x.areSame(0, 8), 1);
        check.due("areSame(0, 13)", x.areSame(0, 13), TOO_FEW);
        check.due("areSame(13, 0)", x.areSame(13, 0), TOO_FEW);
        check.due("areSame(13, -1)", x.areSame(13, -1), BAD_VALUE);
        check.due("areSame(-1, 13)", x.areSame(-1, 13), BAD_VALUE);
    }

    private static void samenessOfObjects() {
        Lisp lisp = new Lisp(check);
        ScopeInterpreter x = lisp.x;
        String[] makers = {"(cons 1 2)", "(vau a b c)", "(lambda a b)", "(wrap if)", "(environment)"};
        for (String maker : makers) {
            lisp.evaluate(maker);
            lisp.evaluate(maker);
            x.pushCopy(0);
            check.due("two of " + maker, x.areSame(0, 2), 0);
            check.due("a copy of " + maker, x.areSame(0, 1), 1);
        }
        lisp.evaluate("if");
        lisp.evaluate("if");
        check.due("if is if", x.areSame(0, 1), 1);
        lisp.evaluate("vau");
        check.due("vau is not if", x.areSame(0, 1), 0);
        lisp.evaluate("add");
        lisp.evaluate("add");
        check.due("add is add", x.areSame(0, 1), 1);
        lisp.evaluate("(unwrap add)");
        check.due("its operative is another", x.areSame(0, 1), 0);
    }

    private static void lengths() {
        Lisp lisp = new Lisp(check);
        ScopeInterpreter x = lisp.x;
        check.due("length(0), empty", x.length(0), TOO_FEW);
        check.due("length(-1)", x.length(-1), BAD_VALUE);
        String[] texts = {"()", "(1)", "(1 2 3)", "((1 2) 3)", "(1 . 2)", "(1 2 . 3)", "5", "#inert", "a"};
        int[] due = {0, 1, 3, 2, WRONG_KIND, WRONG_KIND, WRONG_KIND, WRONG_KIND, WRONG_KIND};
        for (int index = 0; index < texts.length; index++) {
            lisp.push(texts[index]);
            check.due("length(0) of " + texts[index], x.length(0), due[index]);
        }
        check.due("length(6)", x.length(6), 3);
        check.due("length(9)", x.length(9), TOO_FEW);
        x.reset();
        x.setLimit(1500);
        lisp.run("(define f (lambda (n l) (if (less n 1) l (f (subtract n 1) (cons n l)))))");
        lisp.run("(define l (f 80 ()))");
        lisp.run("(define l (f 80 l))");
        lisp.evaluate("l");
        check.due("length of a long list", x.length(0), 160);
    }

    private static void bindingCounts() {
        Lisp lisp = new Lisp(check);
        ScopeInterpreter x = lisp.x;
        check.due("bindingCount(0), empty", x.bindingCount(0), TOO_FEW);
        check.due("bindingCount(-1)", x.bindingCount(-1), BAD_VALUE);
        lisp.run("(define a 1)");
        lisp.run("(define b 1)");
        lisp.run("(define a 2)");
        x.pushEnvironment();
        check.due("bindingCount of user", x.bindingCount(0), 2);
        lisp.evaluate("(environment (scope))");
        check.due("the parent's bindings don't count", x.bindingCount(0), 0);
        check.due("bindingCount(1)", x.bindingCount(1), 2);
        check.due("bindingCount(2)", x.bindingCount(2), TOO_FEW);
        lisp.evaluate("((vau (a b . c) d (scope)) 1 2 3)");
        check.due("parameters are bindings", x.bindingCount(0), 4);
        x.pushInteger(4);
        check.due("bindingCount of an integer", x.bindingCount(0), WRONG_KIND);
        lisp.evaluate("add");
        check.due("bindingCount of a combiner", x.bindingCount(0), WRONG_KIND);
    }
}
