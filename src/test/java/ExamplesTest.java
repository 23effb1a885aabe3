/** The four examples of the document. */
public final class ExamplesTest {
    private static final Check check = new Check();

    public static void main(String[] args) {
        sumAndFailures();
        definitionAndEnvironments();
        operativeThatReturnsItsOperands();
        pairsAndLimit();
        check.finish();
    }

    private static void sumAndFailures() {
        ScopeInterpreter x = new ScopeInterpreter();
        check.due("1: pushSymbol(10)", x.pushSymbol(10), 1);
        check.due("1: pushInteger(2)", x.pushInteger(2), 2);
        check.due("1: pushInteger(3)", x.pushInteger(3), 3);
        check.due("1: makeList(3)", x.makeList(3), 1);
        check.due("1: evaluate()", x.evaluate(), 4);
        check.due("1: value(0)", x.value(0), 5);
        check.due("1: latest(1)", x.latest(1), 1);
        check.due("1: heapSize()", x.heapSize(), 5);
        check.due("1: pushSymbol(30)", x.pushSymbol(30), 2);
        check.due("1: evaluate()", x.evaluate(), -6);
        check.due("1: size()", x.size(), 1);
        check.due("1: pushInteger(5)", x.pushInteger(5), 2);
        check.due("1: pushInteger(6)", x.pushInteger(6), 3);
        check.due("1: makeList(2)", x.makeList(2), 2);
        check.due("1: evaluate()", x.evaluate(), -7);
        check.due("1: size()", x.size(), 1);
    }

    private static void definitionAndEnvironments() {
        ScopeInterpreter x = new ScopeInterpreter();
        check.due("2: pushSymbol(3)", x.pushSymbol(3), 1);
        check.due("2: pushSymbol(40)", x.pushSymbol(40), 2);
        check.due("2: pushInteger(7)", x.pushInteger(7), 3);
        check.due("2: makeList(3)", x.makeList(3), 1);
        check.due("2: evaluate()", x.evaluate(), 3);
        check.due("2: kind(0)", x.kind(0), 8);
        check.due("2: pushSymbol(40)", x.pushSymbol(40), 2);
        check.due("2: evaluate()", x.evaluate(), 1);
        check.due("2: value(0)", x.value(0), 7);
        check.due("2: pushEnvironment()", x.pushEnvironment(), 3);
        check.due("2: bindingCount(0)", x.bindingCount(0), 1);
        check.due("2: pushBinding(0, 40)", x.pushBinding(0, 40), 4);
        check.due("2: pushBinding(1, 2)", x.pushBinding(1, 2), 5);
        check.due("2: kind(0)", x.kind(0), 5);
        check.due("2: pushPart(2, 0)", x.pushPart(2, 0), 6);
        check.due("2: bindingCount(0)", x.bindingCount(0), 24);
    }

    private static void operativeThatReturnsItsOperands() {
        ScopeInterpreter x = new ScopeInterpreter();
        check.due("3: pushSymbol(1)", x.pushSymbol(1), 1);
        check.due("3: pushSymbol(50)", x.pushSymbol(50), 2);
        check.due("3: pushSymbol(51)", x.pushSymbol(51), 3);
        check.due("3: pushSymbol(50)", x.pushSymbol(50), 4);
        check.due("3: makeList(4)", x.makeList(4), 1);
        check.due("3: pushSymbol(10)", x.pushSymbol(10), 2);
        check.due("3: pushInteger(1)", x.pushInteger(1), 3);
        check.due("3: makeList(2)", x.makeList(2), 2);
        check.due("3: makeList(2)", x.makeList(2), 1);
        check.due("3: evaluate()", x.evaluate(), 4);
        check.due("3: kind(0)", x.kind(0), 4);
        check.due("3: length(0)", x.length(0), 1);
        check.due("3: pushPart(0, 0)", x.pushPart(0, 0), 2);
        check.due("3: kind(0)", x.kind(0), 4);
        check.due("3: latest(0)", x.latest(0), 4);
    }

    private static void pairsAndLimit() {
        ScopeInterpreter x = new ScopeInterpreter();
        check.due("4: pushEmpty(false)", x.pushEmpty(false), 1);
        check.due("4: makePair()", x.makePair(), -2);
        check.due("4: pushEmpty(true)", x.pushEmpty(true), 2);
        check.due("4: makePair()", x.makePair(), 1);
        check.due("4: length(0)", x.length(0), -4);
        check.due("4: pushPart(0, 1)", x.pushPart(0, 1), 2);
        check.due("4: kind(0)", x.kind(0), 8);
        check.due("4: areSame(0, 0)", x.areSame(0, 0), 1);
        check.due("4: areSame(0, 1)", x.areSame(0, 1), 0);
        check.due("4: drop(3)", x.drop(3), -2);
        check.due("4: setLimit(1)", x.setLimit(1), 1000);
        check.due("4: pushSymbol(25)", x.pushSymbol(25), 3);
        check.due("4: makeList(1)", x.makeList(1), 3);
        check.due("4: evaluate()", x.evaluate(), -10);
        check.due("4: latest(0)", x.latest(0), 1);
        check.due("4: reset()", x.reset(), 2);
    }
}
