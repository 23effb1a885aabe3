/** The edges of promises 14 to 19, which read, and of the sentences about lists and sameness. */
public final class ReadEdgesTest {
    private static final int BAD_VALUE = ScopeInterpreter.BAD_VALUE;
    private static final int TOO_FEW = ScopeInterpreter.TOO_FEW;
    private static final int WRONG_KIND = ScopeInterpreter.WRONG_KIND;
    private static final long NO_VALUE = ScopeInterpreter.NO_VALUE;
    private static final long GREATEST = 1000000000000000L;
    private static final int LEAST_INT = Integer.MIN_VALUE;
    private static final int GREATEST_INT = Integer.MAX_VALUE;
    private static final Check check = new Check();
    private static final Twin twin = new Twin(check);
    private static final Twin.Setup EMPTY = lisp -> { };
    /** From the uppermost one: nil, an environment, an integer. */
    private static final Twin.Setup THREE = lisp -> {
        lisp.push("7");
        lisp.push("#env");
        lisp.push("()");
    };
    private static final Twin.Setup FULL = lisp -> Lisp.fillStack(lisp.x);

    public static void main(String[] args) {
        sizeOfNoneAndAll();
        kindOfEach();
        kindOutOfRange();
        kindOfTooDeep();
        valueOfEachKind();
        valueAtEndsOfRanges();
        valueOutOfRange();
        sameOfDifferentKinds();
        sameIfEqual();
        sameIfTheSameObject();
        sameOutOfRange();
        sameOfTooDeep();
        lengthOfLists();
        lengthOfOtherValues();
        lengthOfLongList();
        lengthOutOfRange();
        bindingCountOfEnvironments();
        bindingCountOfOtherKinds();
        bindingCountOutOfRange();
        check.finish();
    }

    /** Asks for the depths that every reading call refuses, or answers, in the same way. */
    private static void refusesDepths(String name, Twin.Call negative, Twin.Call least, Twin.Call three,
            Twin.Call greatest) {
        twin.changesNothing(name + "(-1)", THREE, negative, BAD_VALUE);
        twin.changesNothing(name + "(-1), empty", EMPTY, negative, BAD_VALUE);
        twin.changesNothing(name + "(least)", THREE, least, BAD_VALUE);
        twin.changesNothing(name + "(3) of 3", THREE, three, TOO_FEW);
        twin.changesNothing(name + "(3) of none", EMPTY, three, TOO_FEW);
        twin.changesNothing(name + "(greatest)", THREE, greatest, TOO_FEW);
        twin.changesNothing(name + "(greatest), full", FULL, greatest, TOO_FEW);
    }

    // ---- size

    private static void sizeOfNoneAndAll() {
        twin.changesNothing("size() of none", EMPTY, ScopeInterpreter::size, 0);
        twin.changesNothing("size() of 3", THREE, ScopeInterpreter::size, 3);
        twin.changesNothing("size() of 40", FULL, ScopeInterpreter::size, 40);
    }

    // ---- kind: 0 to 8; BAD_VALUE if depth is negative; TOO_FEW

    private static void kindOfEach() {
        for (int kind = 0; kind < Lisp.OF_KIND.length; kind++) {
            String text = Lisp.OF_KIND[kind];
            twin.changesNothing("kind of " + text, lisp -> lisp.push(text), x -> x.kind(0), kind);
        }
        Lisp lisp = new Lisp(check);
        lisp.givesKind("(vau a b c)", Lisp.OPERATIVE);
        lisp.givesKind("(lambda a b)", Lisp.APPLICATIVE);
        lisp.givesKind("(wrap if)", Lisp.APPLICATIVE);
        lisp.givesKind("(environment)", Lisp.ENVIRONMENT);
    }

    private static void kindOutOfRange() {
        refusesDepths("kind", x -> x.kind(-1), x -> x.kind(LEAST_INT), x -> x.kind(3), x -> x.kind(GREATEST_INT));
    }

    private static void kindOfTooDeep() {
        twin.changesNothing("kind(0) of none", EMPTY, x -> x.kind(0), TOO_FEW);
        twin.changesNothing("kind(2) of 3", THREE, x -> x.kind(2), 0);
        twin.changesNothing("kind(39) of 40", FULL, x -> x.kind(39), 0);
        twin.changesNothing("kind(40) of 40", FULL, x -> x.kind(40), TOO_FEW);
    }

    // ---- value

    private static void valueOfEachKind() {
        long[] due = {5, 1, 40, NO_VALUE, NO_VALUE, NO_VALUE, NO_VALUE, NO_VALUE, NO_VALUE};
        for (int kind = 0; kind < due.length; kind++) {
            String text = Lisp.OF_KIND[kind];
            twin.changesNothing("value of " + text, lisp -> lisp.push(text), x -> x.value(0), due[kind]);
        }
    }

    private static void valueAtEndsOfRanges() {
        Lisp lisp = new Lisp(check);
        lisp.x.pushInteger(GREATEST);
        check.due("value of the greatest integer", lisp.x.value(0), GREATEST);
        lisp.x.pushInteger(-GREATEST);
        check.due("value of the least integer", lisp.x.value(0), -GREATEST);
        lisp.x.pushBoolean(false);
        check.due("value of false", lisp.x.value(0), 0);
        lisp.x.pushBoolean(true);
        check.due("value of true", lisp.x.value(0), 1);
        lisp.x.pushSymbol(0);
        check.due("value of symbol 0", lisp.x.value(0), 0);
        lisp.x.pushSymbol(99);
        check.due("value of symbol 99", lisp.x.value(0), 99);
        check.due("value of the lowest value", lisp.x.value(5), GREATEST);
    }

    private static void valueOutOfRange() {
        int[] bad = {-1, 3, LEAST_INT, GREATEST_INT};
        for (int depth : bad) {
            twin.changesNothing("value(" + depth + ") of 3", THREE, x -> x.value(depth), NO_VALUE);
        }
        twin.changesNothing("value(2) of 3", THREE, x -> x.value(2), 7);
        twin.changesNothing("value(0) of none", EMPTY, x -> x.value(0), NO_VALUE);
        twin.changesNothing("value(39) of 40", FULL, x -> x.value(39), 1);
        twin.changesNothing("value(40) of 40", FULL, x -> x.value(40), NO_VALUE);
    }

    // ---- areSame: 1 or 0; BAD_VALUE if depth or other is negative; TOO_FEW

    private static void sameOfDifferentKinds() {
        String[] alike = {"0", "#f", "s0", "()", "1", "#t", "s1", "#inert", "8", "3", "@if", "@add", "#env", "(1)"};
        Lisp lisp = new Lisp(check);
        for (String text : alike) {
            lisp.push(text);
        }
        for (int depth = 0; depth < alike.length; depth++) {
            for (int other = 0; other < alike.length; other++) {
                int due = depth == other ? 1 : 0;
                check.due("areSame(" + depth + ", " + other + ")", lisp.x.areSame(depth, other), due);
            }
        }
    }

    /** "equal integers, booleans or symbols, both nil, both inert" */
    private static void sameIfEqual() {
        String[] texts = {
            "5", "-5", "1000000000000000", "-1000000000000000", "#t", "#f", "s0", "s99", "()", "#inert"
        };
        for (String text : texts) {
            Twin.Setup both = lisp -> {
                lisp.push(text);
                lisp.push("77");
                lisp.push(text);
            };
            twin.changesNothing("two of " + text, both, x -> x.areSame(0, 2), 1);
            twin.changesNothing("two of " + text + ", the other way", both, x -> x.areSame(2, 0), 1);
        }
        String[] unequal = {"5 6", "5 -5", "1 4294967297", "#t #f", "s0 s99", "() #inert", "0 1000000000000000"};
        for (String pair : unequal) {
            String[] two = pair.split(" ");
            Lisp lisp = new Lisp(check);
            lisp.push(two[0]);
            lisp.push(two[1]);
            check.due("areSame of " + pair, lisp.x.areSame(0, 1), 0);
        }
    }

    /** "or the same object (a pair, combiner or environment)" */
    private static void sameIfTheSameObject() {
        String[] makers = {"(quote (1))", "(cons 1 2)", "(vau a b c)", "(lambda a b)", "(wrap if)", "(environment)"};
        for (String maker : makers) {
            Lisp lisp = new Lisp(check);
            lisp.evaluate(maker);
            lisp.x.pushCopy(0);
            lisp.evaluate(maker);
            check.due("a copy of " + maker, lisp.x.areSame(1, 2), 1);
            check.due("another of " + maker, lisp.x.areSame(0, 1), 0);
        }
        String[] ground = {"if", "scope", "add", "list", "(unwrap add)", "(unwrap list)", "(scope)"};
        for (String text : ground) {
            Lisp lisp = new Lisp(check);
            lisp.evaluate(text);
            lisp.evaluate(text);
            check.due(text + " is the same again", lisp.x.areSame(0, 1), 1);
        }
    }

    private static void sameOutOfRange() {
        refusesDepths("areSame(0, other)", x -> x.areSame(0, -1), x -> x.areSame(0, LEAST_INT),
                x -> x.areSame(0, 3), x -> x.areSame(0, GREATEST_INT));
        refusesDepths("areSame(depth, 0)", x -> x.areSame(-1, 0), x -> x.areSame(LEAST_INT, 0),
                x -> x.areSame(3, 0), x -> x.areSame(GREATEST_INT, 0));
        twin.changesNothing("areSame(3, -1) of 3", THREE, x -> x.areSame(3, -1), BAD_VALUE);
        twin.changesNothing("areSame(-1, 3) of 3", THREE, x -> x.areSame(-1, 3), BAD_VALUE);
    }

    private static void sameOfTooDeep() {
        twin.changesNothing("areSame(0, 0) of none", EMPTY, x -> x.areSame(0, 0), TOO_FEW);
        twin.changesNothing("areSame(2, 2) of 3", THREE, x -> x.areSame(2, 2), 1);
        twin.changesNothing("areSame(0, 39) of 40", FULL, x -> x.areSame(0, 39), 1);
        twin.changesNothing("areSame(39, 0) of 40", FULL, x -> x.areSame(39, 0), 1);
        twin.changesNothing("areSame(0, 40) of 40", FULL, x -> x.areSame(0, 40), TOO_FEW);
        twin.changesNothing("areSame(40, 0) of 40", FULL, x -> x.areSame(40, 0), TOO_FEW);
    }

    // ---- length: BAD_VALUE; TOO_FEW; WRONG_KIND if it is not a list

    /** "A list is nil, or a pair whose cdr is a list" */
    private static void lengthOfLists() {
        String[] lists = {"()", "(1)", "(())", "((1 2 3))", "(1 2)", "(1 () 2)", "((1 . 2) 3 #inert)"};
        int[] due = {0, 1, 1, 1, 2, 3, 3};
        for (int index = 0; index < lists.length; index++) {
            String text = lists[index];
            twin.changesNothing("length of " + text, lisp -> lisp.push(text), x -> x.length(0), due[index]);
        }
        twin.changesNothing("length(2) of 3", lisp -> {
            lisp.push("(1 2)");
            lisp.push("3");
            lisp.push("4");
        }, x -> x.length(2), 2);
    }

    /** "a value whose cdrs do not end with nil is not a list" */
    private static void lengthOfOtherValues() {
        String[] others = {
            "5", "0", "#f", "a", "@if", "@add", "#env", "#inert", "(1 . 2)", "(1 2 3 . 4)", "(1 . #inert)",
            "(() . #f)", "(1 2 . a)", "(1 . @list)", "((1 2) . 0)"
        };
        twin.changesNothing("length", others, x -> x.length(0), WRONG_KIND);
    }

    /** Each "define" puts 1 before the list l, with six steps and three objects. */
    private static void lengthOfLongList() {
        Lisp lisp = new Lisp(check);
        lisp.x.setLimit(1500);
        lisp.run("(define l ())");
        lisp.push("(define l (cons 1 l))");
        lisp.x.pushSymbol(5);
        for (int count = 0; count < 30; count++) {
            lisp.x.pushCopy(count + 1);
        }
        lisp.x.makeList(31);
        lisp.push("begin");
        for (int count = 0; count < 8; count++) {
            lisp.x.pushCopy(count + 1);
        }
        lisp.x.makeList(9);
        for (int round = 0; round < 4; round++) {
            lisp.x.pushCopy(0);
            check.due("the list grows", lisp.x.evaluate(), 8 * (2 + 30 * 6) + 2);
            lisp.x.drop(1);
        }
        lisp.evaluate("l");
        check.due("length of a long list", lisp.x.length(0), 960);
        lisp.givesInteger("(add . @l)", 960);
        lisp.evaluate("(cons l 5)");
        check.due("length of no list", lisp.x.length(0), WRONG_KIND);
    }

    private static void lengthOutOfRange() {
        refusesDepths("length", x -> x.length(-1), x -> x.length(LEAST_INT), x -> x.length(3),
                x -> x.length(GREATEST_INT));
        twin.changesNothing("length(0) of none", EMPTY, x -> x.length(0), TOO_FEW);
        twin.changesNothing("length(40) of 40", FULL, x -> x.length(40), TOO_FEW);
        twin.changesNothing("length(39) of 40", FULL, x -> x.length(39), WRONG_KIND);
    }

    // ---- bindingCount: BAD_VALUE; TOO_FEW; WRONG_KIND

    private static void bindingCountOfEnvironments() {
        Lisp lisp = new Lisp(check);
        lisp.push("#env");
        check.due("user has no bindings", lisp.x.bindingCount(0), 0);
        lisp.run("(define a 1)");
        check.due("one binding", lisp.x.bindingCount(0), 1);
        lisp.run("(define a 2)");
        check.due("still one binding", lisp.x.bindingCount(0), 1);
        lisp.run("(define b 2)");
        check.due("two bindings", lisp.x.bindingCount(0), 2);
        lisp.evaluate("(environment (scope))");
        check.due("the parent's do not count", lisp.x.bindingCount(0), 0);
        lisp.x.pushPart(1, 0);
        check.due("ground", lisp.x.bindingCount(0), 24);
        lisp.x.useEnvironment();
        lisp.run("(define add 1)");
        lisp.run("(define s99 1)");
        lisp.push("#env");
        check.due("ground with one more", lisp.x.bindingCount(0), 25);
    }

    private static void bindingCountOfOtherKinds() {
        String[] others = {"5", "#f", "a", "()", "(1)", "@if", "@add", "#inert"};
        twin.changesNothing("bindingCount", others, x -> x.bindingCount(0), WRONG_KIND);
    }

    private static void bindingCountOutOfRange() {
        refusesDepths("bindingCount", x -> x.bindingCount(-1), x -> x.bindingCount(LEAST_INT),
                x -> x.bindingCount(3), x -> x.bindingCount(GREATEST_INT));
        twin.changesNothing("bindingCount(0) of none", EMPTY, x -> x.bindingCount(0), TOO_FEW);
        twin.changesNothing("bindingCount(1) of 3", THREE, x -> x.bindingCount(1), 0);
        twin.changesNothing("bindingCount(40) of 40", FULL, x -> x.bindingCount(40), TOO_FEW);
        twin.changesNothing("bindingCount(39) of 40", FULL, x -> x.bindingCount(39), WRONG_KIND);
    }
}
