/** The edges of promises 2 to 9, which push a value: every range, every error, and their order. */
public final class PushEdgesTest {
    private static final int BAD_VALUE = ScopeInterpreter.BAD_VALUE;
    private static final int TOO_FEW = ScopeInterpreter.TOO_FEW;
    private static final int STACK_FULL = ScopeInterpreter.STACK_FULL;
    private static final int WRONG_KIND = ScopeInterpreter.WRONG_KIND;
    private static final int UNBOUND = ScopeInterpreter.UNBOUND;
    private static final int NONE = ScopeInterpreter.NONE;
    private static final long GREATEST = 1000000000000000L;
    private static final int LEAST_INT = Integer.MIN_VALUE;
    private static final int GREATEST_INT = Integer.MAX_VALUE;
    private static final Check check = new Check();
    private static final Twin twin = new Twin(check);
    private static final Twin.Setup EMPTY = lisp -> { };
    private static final Twin.Setup THREE = lisp -> {
        lisp.push("(1 . 2)");
        lisp.push("#env");
        lisp.push("7");
    };
    private static final Twin.Setup FULL = lisp -> Lisp.fillStack(lisp.x);

    public static void main(String[] args) {
        leastAndGreatestInteger();
        integersOutOfRange();
        integerOnFullStack();
        booleanOnFullStack();
        firstAndLastSymbol();
        symbolsOutOfRange();
        symbolOnFullStack();
        nilAndInert();
        emptyOnFullStack();
        environmentOnFullStack();
        copyOfAnyDepth();
        copyOutOfRange();
        copyOfTooDeep();
        copyOnFullStack();
        partOutOfRange();
        partOfTooDeep();
        partOfKindWithoutParts();
        cdrOfKindWithoutCdr();
        partOnFullStack();
        parentOnFullStack();
        noParent();
        bindingOutOfRange();
        bindingOfTooDeep();
        bindingOfOtherKinds();
        bindingUnbound();
        bindingOnFullStack();
        firstAndLastSymbolsBinding();
        check.finish();
    }

    /** "The value stack holds at most 40 values": the call must push the 40th, and not a 41st. */
    private static void onlyFortieth(String name, Twin.Setup below, Twin.Call call) {
        Lisp lisp = new Lisp(check);
        below.build(lisp);
        Lisp.fillStack(lisp.x);
        lisp.x.drop(1);
        check.due(name + ", 39 values", call.ask(lisp.x), 40);
        check.due(name + ", size", lisp.x.size(), 40);
        check.due(name + ", 40 values", call.ask(lisp.x), STACK_FULL);
        Twin.Setup full = twinLisp -> {
            below.build(twinLisp);
            Lisp.fillStack(twinLisp.x);
        };
        twin.changesNothing(name + ", full", full, call, STACK_FULL);
    }

    // ---- pushInteger: -10^15 to 10^15; BAD_VALUE; STACK_FULL

    private static void leastAndGreatestInteger() {
        long[] good = {GREATEST, -GREATEST, GREATEST - 1, 1 - GREATEST, 0};
        for (long number : good) {
            ScopeInterpreter x = new ScopeInterpreter();
            check.due("pushInteger(" + number + ")", x.pushInteger(number), 1);
            check.due("its kind", x.kind(0), 0);
            check.due("its value", x.value(0), number);
        }
    }

    private static void integersOutOfRange() {
        long[] bad = {
            GREATEST + 1, -GREATEST - 1, Long.MAX_VALUE, Long.MIN_VALUE, Long.MIN_VALUE + 1, 1L << 60, -(1L << 60)
        };
        for (long number : bad) {
            twin.changesNothing("pushInteger(" + number + ")", THREE, x -> x.pushInteger(number), BAD_VALUE);
            twin.changesNothing("full: pushInteger(" + number + ")", FULL, x -> x.pushInteger(number), BAD_VALUE);
        }
    }

    private static void integerOnFullStack() {
        onlyFortieth("pushInteger(-GREATEST)", EMPTY, x -> x.pushInteger(-GREATEST));
    }

    // ---- pushBoolean: STACK_FULL

    private static void booleanOnFullStack() {
        onlyFortieth("pushBoolean(true)", EMPTY, x -> x.pushBoolean(true));
        onlyFortieth("pushBoolean(false)", EMPTY, x -> x.pushBoolean(false));
    }

    // ---- pushSymbol: 0 to 99; BAD_VALUE; STACK_FULL

    private static void firstAndLastSymbol() {
        int[] good = {0, 1, 98, 99};
        for (int symbol : good) {
            ScopeInterpreter x = new ScopeInterpreter();
            check.due("pushSymbol(" + symbol + ")", x.pushSymbol(symbol), 1);
            check.due("its kind", x.kind(0), 2);
            check.due("its value", x.value(0), symbol);
        }
    }

    private static void symbolsOutOfRange() {
        int[] bad = {-1, 100, 127, 128, LEAST_INT, GREATEST_INT};
        for (int symbol : bad) {
            twin.changesNothing("pushSymbol(" + symbol + ")", THREE, x -> x.pushSymbol(symbol), BAD_VALUE);
            twin.changesNothing("full: pushSymbol(" + symbol + ")", FULL, x -> x.pushSymbol(symbol), BAD_VALUE);
        }
    }

    private static void symbolOnFullStack() {
        onlyFortieth("pushSymbol(99)", EMPTY, x -> x.pushSymbol(99));
    }

    // ---- pushEmpty: STACK_FULL

    private static void nilAndInert() {
        ScopeInterpreter x = new ScopeInterpreter();
        check.due("pushEmpty(true)", x.pushEmpty(true), 1);
        check.due("true is for inert", x.kind(0), 8);
        check.due("pushEmpty(false)", x.pushEmpty(false), 2);
        check.due("false is for nil", x.kind(0), 3);
    }

    private static void emptyOnFullStack() {
        onlyFortieth("pushEmpty(true)", EMPTY, x -> x.pushEmpty(true));
        onlyFortieth("pushEmpty(false)", EMPTY, x -> x.pushEmpty(false));
    }

    // ---- pushEnvironment: STACK_FULL

    private static void environmentOnFullStack() {
        onlyFortieth("pushEnvironment()", EMPTY, ScopeInterpreter::pushEnvironment);
    }

    // ---- pushCopy: BAD_VALUE if depth is negative; TOO_FEW; STACK_FULL

    private static void copyOfAnyDepth() {
        for (int depth = 0; depth < 39; depth++) {
            ScopeInterpreter x = new ScopeInterpreter();
            for (int number = 0; number < 39; number++) {
                x.pushInteger(number);
            }
            check.due("pushCopy(" + depth + ") of 39", x.pushCopy(depth), 40);
            check.due("its value", x.value(0), 38 - depth);
        }
    }

    private static void copyOutOfRange() {
        int[] bad = {-1, LEAST_INT};
        for (int depth : bad) {
            twin.changesNothing("pushCopy(" + depth + ")", THREE, x -> x.pushCopy(depth), BAD_VALUE);
            twin.changesNothing("empty: pushCopy(" + depth + ")", EMPTY, x -> x.pushCopy(depth), BAD_VALUE);
            twin.changesNothing("full: pushCopy(" + depth + ")", FULL, x -> x.pushCopy(depth), BAD_VALUE);
        }
    }

    private static void copyOfTooDeep() {
        int[] deep = {3, 4, 40, GREATEST_INT};
        for (int depth : deep) {
            twin.changesNothing("pushCopy(" + depth + ") of 3", THREE, x -> x.pushCopy(depth), TOO_FEW);
        }
        twin.changesNothing("pushCopy(0) of none", EMPTY, x -> x.pushCopy(0), TOO_FEW);
        twin.changesNothing("pushCopy(40) of 40", FULL, x -> x.pushCopy(40), TOO_FEW);
    }

    private static void copyOnFullStack() {
        onlyFortieth("pushCopy(0)", EMPTY, x -> x.pushCopy(0));
        twin.changesNothing("pushCopy(39) of 40", FULL, x -> x.pushCopy(39), STACK_FULL);
    }

    // ---- pushPart: BAD_VALUE; TOO_FEW; WRONG_KIND; STACK_FULL; NONE

    private static void partOutOfRange() {
        int[] badParts = {-1, 2, LEAST_INT, GREATEST_INT};
        for (int part : badParts) {
            twin.changesNothing("pushPart(2, " + part + ")", THREE, x -> x.pushPart(2, part), BAD_VALUE);
            twin.changesNothing("too deep: part " + part, THREE, x -> x.pushPart(3, part), BAD_VALUE);
            twin.changesNothing("no parts: part " + part, THREE, x -> x.pushPart(0, part), BAD_VALUE);
            twin.changesNothing("empty: part " + part, EMPTY, x -> x.pushPart(0, part), BAD_VALUE);
            twin.changesNothing("full: part " + part, FULL, x -> x.pushPart(0, part), BAD_VALUE);
        }
        for (int part = 0; part < 2; part++) {
            int good = part;
            twin.changesNothing("pushPart(-1, " + part + ")", THREE, x -> x.pushPart(-1, good), BAD_VALUE);
            twin.changesNothing("pushPart(least, " + part + ")", THREE, x -> x.pushPart(LEAST_INT, good), BAD_VALUE);
            twin.changesNothing("empty: pushPart(-1, " + part + ")", EMPTY, x -> x.pushPart(-1, good), BAD_VALUE);
            twin.changesNothing("full: pushPart(-1, " + part + ")", FULL, x -> x.pushPart(-1, good), BAD_VALUE);
        }
    }

    private static void partOfTooDeep() {
        for (int part = 0; part < 2; part++) {
            int good = part;
            twin.changesNothing("pushPart(0, " + part + ") of none", EMPTY, x -> x.pushPart(0, good), TOO_FEW);
            twin.changesNothing("pushPart(3, " + part + ") of 3", THREE, x -> x.pushPart(3, good), TOO_FEW);
            twin.changesNothing("too deep", THREE, x -> x.pushPart(GREATEST_INT, good), TOO_FEW);
            twin.changesNothing("pushPart(40, " + part + ") of 40", FULL, x -> x.pushPart(40, good), TOO_FEW);
        }
    }

    private static void partOfKindWithoutParts() {
        String[] without = {"5", "#f", "a", "()", "#inert", "@if", "@scope"};
        twin.changesNothing("pushPart(0, 0)", without, x -> x.pushPart(0, 0), WRONG_KIND);
        twin.changesNothing("pushPart(0, 1)", without, x -> x.pushPart(0, 1), WRONG_KIND);
        Twin.Setup compound = lisp -> lisp.evaluate("(vau (a) b c)");
        twin.changesNothing("car of a compound operative", compound, x -> x.pushPart(0, 0), WRONG_KIND);
        twin.changesNothing("cdr of a compound operative", compound, x -> x.pushPart(0, 1), WRONG_KIND);
        for (String text : without) {
            Twin.Setup full = lisp -> {
                lisp.push(text);
                Lisp.fillStack(lisp.x);
            };
            twin.changesNothing("full: part of " + text, full, x -> x.pushPart(39, 0), WRONG_KIND);
        }
    }

    private static void cdrOfKindWithoutCdr() {
        String[] texts = {"@add", "#env"};
        twin.changesNothing("pushPart(0, 1)", texts, x -> x.pushPart(0, 1), WRONG_KIND);
        Twin.Setup made = lisp -> lisp.evaluate("(wrap if)");
        twin.changesNothing("cdr of a made applicative", made, x -> x.pushPart(0, 1), WRONG_KIND);
        Twin.Setup orphan = lisp -> lisp.evaluate("(environment)");
        twin.changesNothing("cdr, not NONE", orphan, x -> x.pushPart(0, 1), WRONG_KIND);
    }

    private static void partOnFullStack() {
        onlyFortieth("car", lisp -> lisp.push("(1 . 2)"), x -> x.pushPart(x.size() - 1, 0));
        onlyFortieth("cdr", lisp -> lisp.push("(1 . 2)"), x -> x.pushPart(x.size() - 1, 1));
        onlyFortieth("underlying", lisp -> lisp.push("@add"), x -> x.pushPart(x.size() - 1, 0));
        onlyFortieth("parent", lisp -> lisp.push("#env"), x -> x.pushPart(x.size() - 1, 0));
    }

    /** "NONE is returned only if no error applies." */
    private static void parentOnFullStack() {
        Twin.Setup full = lisp -> {
            lisp.evaluate("(environment)");
            Lisp.fillStack(lisp.x);
        };
        twin.changesNothing("no parent, full", full, x -> x.pushPart(39, 0), STACK_FULL);
    }

    private static void noParent() {
        Twin.Setup orphan = lisp -> lisp.evaluate("(environment)");
        twin.changesNothing("no parent", orphan, x -> x.pushPart(0, 0), NONE);
        Twin.Setup ground = lisp -> {
            lisp.push("#env");
            lisp.x.pushPart(0, 0);
        };
        twin.changesNothing("ground has no parent", ground, x -> x.pushPart(0, 0), NONE);
        Twin.Setup nearlyFull = lisp -> {
            lisp.evaluate("(environment)");
            Lisp.fillStack(lisp.x);
            lisp.x.drop(1);
        };
        twin.changesNothing("no parent, 39 values", nearlyFull, x -> x.pushPart(38, 0), NONE);
    }

    // ---- pushBinding: BAD_VALUE; TOO_FEW; WRONG_KIND; UNBOUND; STACK_FULL

    private static void bindingOutOfRange() {
        int[] bad = {-1, 100, 127, 128, LEAST_INT, GREATEST_INT};
        for (int symbol : bad) {
            twin.changesNothing("pushBinding(1, " + symbol + ")", THREE, x -> x.pushBinding(1, symbol), BAD_VALUE);
            twin.changesNothing("too deep, " + symbol, THREE, x -> x.pushBinding(3, symbol), BAD_VALUE);
            twin.changesNothing("wrong kind, " + symbol, THREE, x -> x.pushBinding(0, symbol), BAD_VALUE);
            twin.changesNothing("full, " + symbol, FULL, x -> x.pushBinding(0, symbol), BAD_VALUE);
        }
        twin.changesNothing("pushBinding(-1, 10)", THREE, x -> x.pushBinding(-1, 10), BAD_VALUE);
        twin.changesNothing("pushBinding(least, 10)", THREE, x -> x.pushBinding(LEAST_INT, 10), BAD_VALUE);
        twin.changesNothing("empty: pushBinding(-1, 10)", EMPTY, x -> x.pushBinding(-1, 10), BAD_VALUE);
        twin.changesNothing("empty: pushBinding(0, 100)", EMPTY, x -> x.pushBinding(0, 100), BAD_VALUE);
    }

    private static void bindingOfTooDeep() {
        twin.changesNothing("pushBinding(0, 10) of none", EMPTY, x -> x.pushBinding(0, 10), TOO_FEW);
        twin.changesNothing("pushBinding(3, 10) of 3", THREE, x -> x.pushBinding(3, 10), TOO_FEW);
        twin.changesNothing("pushBinding(greatest, 10)", THREE, x -> x.pushBinding(GREATEST_INT, 10), TOO_FEW);
        twin.changesNothing("pushBinding(40, 10) of 40", FULL, x -> x.pushBinding(40, 10), TOO_FEW);
    }

    private static void bindingOfOtherKinds() {
        String[] others = {"5", "#f", "a", "()", "(1)", "@if", "@add", "#inert"};
        twin.changesNothing("pushBinding(0, 10)", others, x -> x.pushBinding(0, 10), WRONG_KIND);
        twin.changesNothing("pushBinding(0, 50)", others, x -> x.pushBinding(0, 50), WRONG_KIND);
        twin.changesNothing("full: pushBinding(0, 10)", FULL, x -> x.pushBinding(0, 10), WRONG_KIND);
    }

    private static void bindingUnbound() {
        int[] unbound = {8, 9, 26, 40, 99};
        for (int symbol : unbound) {
            twin.changesNothing("pushBinding(1, " + symbol + ")", THREE, x -> x.pushBinding(1, symbol), UNBOUND);
        }
        Twin.Setup orphan = lisp -> lisp.evaluate("(environment)");
        twin.changesNothing("without a parent", orphan, x -> x.pushBinding(0, 10), UNBOUND);
        Twin.Setup full = lisp -> {
            lisp.push("#env");
            Lisp.fillStack(lisp.x);
        };
        twin.changesNothing("unbound, full", full, x -> x.pushBinding(39, 40), UNBOUND);
    }

    private static void bindingOnFullStack() {
        onlyFortieth("pushBinding", lisp -> lisp.push("#env"), x -> x.pushBinding(x.size() - 1, 10));
    }

    private static void firstAndLastSymbolsBinding() {
        Lisp lisp = new Lisp(check);
        lisp.run("(define s99 12)");
        lisp.push("#env");
        check.due("pushBinding(0, 99)", lisp.x.pushBinding(0, 99), 2);
        check.due("its value", lisp.x.value(0), 12);
        check.due("pushBinding(1, 0)", lisp.x.pushBinding(1, 0), 3);
        check.due("its kind", lisp.x.kind(0), 5);
    }
}
