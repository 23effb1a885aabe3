/** The edges of parameter trees and environment parameters, which vau and lambda check. */
public final class ParameterEdgesTest {
    private static final int BAD_OPERANDS = ScopeInterpreter.BAD_OPERANDS;
    private static final Check check = new Check();
    private static final Twin twin = new Twin(check);

    public static void main(String[] args) {
        kindsInTree();
        kindsDeepInTree();
        hundredPairsInOneChain();
        hundredPairsByCars();
        hundredPairsInLists();
        hundredPairsThatAreShared();
        manyMorePairs();
        symbolTwice();
        sharedSymbolTwice();
        emptiesTwice();
        kindsOfEnvironmentParameter();
        environmentParameterInTree();
        check.finish();
    }

    private static boolean mayBeInTree(int kind) {
        return kind == 2 || kind == Lisp.NIL || kind == Lisp.PAIR || kind == 8;
    }

    /** "which consists of pairs, symbols, nil and inert"; (1) is no tree, as 1 is none. */
    private static void kindsInTree() {
        for (int kind = 0; kind < Lisp.OF_KIND.length; kind++) {
            String tree = kind == Lisp.PAIR ? "(a)" : Lisp.OF_KIND[kind];
            String[] texts = {"(vau " + tree + " #inert 1)", "(lambda " + tree + " 1)"};
            for (String text : texts) {
                if (mayBeInTree(kind)) {
                    new Lisp(check).costs(text, 2, 1, text.startsWith("(vau") ? 1 : 2);
                } else {
                    twin.fails(text, BAD_OPERANDS, 2, 1, 0);
                }
            }
        }
    }

    private static void kindsDeepInTree() {
        String[] bad = {"5", "#t", "#f", "@if", "@add", "#env", "0"};
        for (String leaf : bad) {
            String[] trees = {
                "(" + leaf + ")", "(b . " + leaf + ")", "(b " + leaf + " c)", "((b (c " + leaf + ")) d)",
                "(b c d () . " + leaf + ")"
            };
            for (String tree : trees) {
                twin.fails("(vau " + tree + " #inert 1)", BAD_OPERANDS, 2, 1, 0);
                twin.fails("(lambda " + tree + " 1)", BAD_OPERANDS, 2, 1, 0);
            }
        }
        new Lisp(check).costs("(vau ((b (c ())) #inert . d) e 1)", 2, 1, 1);
    }

    // ---- "which has at most 100 pairs (each counted as often as it occurs)"

    /** Pushes a tree of some pairs. */
    private interface Tree {
        void push(Lisp lisp, int pairs);
    }

    /** Puts the tree that is pushed into vau or lambda; returns what evaluate() answers. */
    private static int evaluateWith(Lisp lisp, Tree tree, int pairs, boolean isVau) {
        lisp.x.pushSymbol(Lisp.symbol(isVau ? "vau" : "lambda"));
        tree.push(lisp, pairs);
        if (isVau) {
            lisp.push("#inert");
        }
        lisp.push("7");
        lisp.x.makeList(isVau ? 4 : 3);
        return lisp.x.evaluate();
    }

    private static void atMostHundred(String name, Tree tree) {
        for (int way = 0; way < 2; way++) {
            boolean isVau = way == 0;
            Lisp lisp = new Lisp(check);
            check.due(name + " of 100 pairs", evaluateWith(lisp, tree, 100, isVau), 2);
            check.due("its kind", lisp.x.kind(0), isVau ? Lisp.OPERATIVE : Lisp.APPLICATIVE);
            if (isVau) {
                tree.push(lisp, 100);
                lisp.x.makePair();
                check.due("it matches such operands", lisp.x.evaluate(), 3);
                check.due("and its body is evaluated", lisp.x.value(0), 7);
            }
            Lisp tooLarge = new Lisp(check);
            check.due(name + " of 101 pairs", evaluateWith(tooLarge, tree, 101, isVau), BAD_OPERANDS);
            check.due("latest(0)", tooLarge.x.latest(0), 2);
        }
    }

    private static void hundredPairsInOneChain() {
        atMostHundred("a chain of cdrs", ParameterEdgesTest::pushChainOfCdrs);
    }

    /** The evaluations make it, 25 pairs at a time, as a call for each would be too many calls. */
    private static void pushChainOfCdrs(Lisp lisp, int pairs) {
        ScopeInterpreter x = lisp.x;
        lisp.run("(define t #inert)");
        lisp.push("(define t (cons () t))");
        repeat(x, pairs % 25);
        lisp.push("begin");
        for (int count = 0; count < 25; count++) {
            x.pushCopy(count + 1);
        }
        x.makeList(26);
        repeat(x, pairs / 25);
        x.drop(2);
        lisp.push("@t");
    }

    private static void repeat(ScopeInterpreter x, int times) {
        for (int count = 0; count < times; count++) {
            x.pushCopy(0);
            x.evaluate();
            x.drop(1);
        }
    }

    private static void hundredPairsByCars() {
        atMostHundred("a chain of cars", (lisp, pairs) -> {
            lisp.x.pushEmpty(true);
            for (int count = 0; count < pairs; count++) {
                lisp.x.pushEmpty(false);
                lisp.x.makePair();
            }
        });
    }

    private static void hundredPairsInLists() {
        atMostHundred("lists", (lisp, pairs) -> {
            pushInerts(lisp.x, pairs - 70);
            lisp.x.makeList(pairs - 70);
            pushInerts(lisp.x, 34);
            lisp.x.makeList(35);
            pushInerts(lisp.x, 34);
            lisp.x.makeList(35);
        });
    }

    private static void pushInerts(ScopeInterpreter x, int count) {
        for (int pushed = 0; pushed < count; pushed++) {
            x.pushEmpty(true);
        }
    }

    /** Trees whose car is their cdr: 1, 3, 7, 15, 31 and 63 pairs; then 63 + (31 + (3 or 4) + 1) + 1. */
    private static void hundredPairsThatAreShared() {
        for (int pairs = 100; pairs <= 101; pairs++) {
            Lisp lisp = new Lisp(check);
            ScopeInterpreter x = lisp.x;
            x.pushEmpty(false);
            for (int doublings = 0; doublings < 6; doublings++) {
                x.pushCopy(0);
                x.pushCopy(1);
                x.makePair();
            }
            lisp.push("vau");
            x.pushCopy(1);
            x.pushCopy(3);
            x.pushCopy(7);
            x.pushCopy(pairs == 100 ? 10 : 9);
            x.makePair();
            x.makePair();
            x.makePair();
            lisp.push("#inert");
            lisp.push("7");
            x.makeList(4);
            int objects = x.heapSize();
            check.due(pairs + " pairs that are shared", x.evaluate(), pairs == 100 ? 2 : BAD_OPERANDS);
            check.due("new objects", x.heapSize() - objects, pairs == 100 ? 1 : 0);
        }
    }

    /** 2^doublings - 1 pairs; a count that wraps around, or a walk through all, would show here. */
    private static void manyMorePairs() {
        for (int doublings = 1; doublings <= 70; doublings++) {
            ScopeInterpreter x = new ScopeInterpreter();
            x.pushSymbol(Lisp.symbol("vau"));
            x.pushEmpty(true);
            for (int count = 0; count < doublings; count++) {
                x.pushCopy(0);
                x.makePair();
            }
            x.pushEmpty(true);
            x.pushInteger(1);
            x.makeList(4);
            check.due(doublings + " doublings", x.evaluate(), doublings <= 6 ? 2 : BAD_OPERANDS);
        }
    }

    // ---- "in which no symbol occurs twice"

    private static void symbolTwice() {
        String[] bad = {
            "(b b)", "(b . b)", "(b c b)", "(b c . b)", "((b) b)", "(b (b))", "((b . c) (d . c))", "(s0 s0)",
            "(s99 c . s99)", "(b c d e f g h b)", "((b (c (d))) ((e) (f (b))))"
        };
        for (String tree : bad) {
            twin.fails("(vau " + tree + " #inert 1)", BAD_OPERANDS, 2, 1, 0);
            twin.fails("(vau " + tree + " z 1)", BAD_OPERANDS, 2, 1, 0);
            twin.fails("(lambda " + tree + " 1)", BAD_OPERANDS, 2, 1, 0);
        }
        String[] good = {"(b c)", "(b . c)", "((b) c)", "(s0 . s99)", "(b c d e f g h i)", "(if vau)"};
        for (String tree : good) {
            new Lisp(check).costs("(vau " + tree + " #inert 1)", 2, 1, 1);
            new Lisp(check).costs("(lambda " + tree + " 1)", 2, 1, 2);
        }
    }

    /** The same pair twice: its symbol occurs twice. */
    private static void sharedSymbolTwice() {
        String[] shared = {"(b)", "(() . b)", "((b))", "(())"};
        for (String text : shared) {
            Lisp lisp = new Lisp(check);
            lisp.push("vau");
            lisp.push(text);
            lisp.x.pushCopy(0);
            lisp.x.makePair();
            lisp.push("#inert");
            lisp.push("7");
            lisp.x.makeList(4);
            check.due(text + " twice in a tree", lisp.x.evaluate(), text.equals("(())") ? 2 : BAD_OPERANDS);
        }
    }

    private static void emptiesTwice() {
        new Lisp(check).costs("(vau (() #inert () #inert ()) #inert 1)", 2, 1, 1);
        new Lisp(check).costs("(lambda (#inert #inert . #inert) 1)", 2, 1, 2);
    }

    // ---- the environment parameter

    /** "environment is a symbol that does not occur in the tree, or inert" */
    private static void kindsOfEnvironmentParameter() {
        for (int kind = 0; kind < Lisp.OF_KIND.length; kind++) {
            String text = "(vau (b) " + Lisp.OF_KIND[kind] + " 1)";
            if (kind == 2 || kind == 8) {
                new Lisp(check).costs(text, 2, 1, 1);
            } else {
                twin.fails(text, BAD_OPERANDS, 2, 1, 0);
            }
        }
        new Lisp(check).costs("(vau () s0 1)", 2, 1, 1);
        new Lisp(check).costs("(vau () s99 1)", 2, 1, 1);
    }

    private static void environmentParameterInTree() {
        String[] trees = {"b", "(b)", "(c b)", "(c . b)", "((c (b)) d)", "(() #inert c d e b)"};
        for (String tree : trees) {
            twin.fails("(vau " + tree + " b 1)", BAD_OPERANDS, 2, 1, 0);
            new Lisp(check).costs("(vau " + tree + " z 1)", 2, 1, 1);
        }
        twin.fails("(vau (s99) s99 1)", BAD_OPERANDS, 2, 1, 0);
        twin.fails("(vau s0 s0 1)", BAD_OPERANDS, 2, 1, 0);
        new Lisp(check).costs("(vau (s98) s99 1)", 2, 1, 1);
        new Lisp(check).costs("(vau (b) c b)", 2, 1, 1);
    }
}
