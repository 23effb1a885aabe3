/** The edges of "Objects": the heap's room, what takes room in it and what does not. */
public final class HeapEdgesTest {
    private static final int HEAP_FULL = ScopeInterpreter.HEAP_FULL;
    private static final int BAD_OPERANDS = ScopeInterpreter.BAD_OPERANDS;
    private static final int UNBOUND = ScopeInterpreter.UNBOUND;
    private static final Check check = new Check();
    private static final Twin.Setup NOTHING = lisp -> { };

    public static void main(String[] args) {
        bindings();
        combiners();
        environments();
        pairs();
        newEnvironmentOfCall();
        groundObjectsDoNotCount();
        userEnvironmentDoesNotCount();
        newBindingsOfGroundCount();
        changedBindingsDoNotCount();
        evaluationsWithoutObjects();
        objectsAreNeverRemoved();
        otherErrorsComeFirst();
        listComesBeforeItsUse();
        whatWasDoneStays();
        afterFullHeap();
        check.finish();
    }

    private static Lisp withRoom(Twin.Setup before, String text, int room) {
        Lisp lisp = new Lisp(check);
        before.build(lisp);
        lisp.push(text);
        lisp.leaveRoom(room);
        return lisp;
    }

    /** The text must have this outcome where there is so much room, and leave so much. */
    private static void inRoom(Twin.Setup before, String text, int room, int due, int left) {
        Lisp lisp = withRoom(before, text, room);
        String call = text + " with room for " + room;
        check.due(call, lisp.x.evaluate(), due);
        check.due(call + ": heapSize()", lisp.x.heapSize(), 4000 - left);
        check.due(call + ": size()", lisp.x.size(), due > 0 ? 1 : 0);
    }

    /** The text must need exactly so many objects; with less room, it uses up what there is. */
    private static void needs(Twin.Setup before, String text, int steps, int objects) {
        for (int room = 0; room < objects; room++) {
            inRoom(before, text, room, HEAP_FULL, 0);
        }
        inRoom(before, text, objects, steps, 0);
        inRoom(before, text, objects + 1, steps, 1);
    }

    private static void needs(String text, int steps, int objects) {
        needs(NOTHING, text, steps, objects);
    }

    // ---- each kind of object takes a place

    private static void bindings() {
        needs("(define a 1)", 3, 1);
        needs("(set (scope) a 1)", 5, 1);
        needs("(set (environment) a 1)", 5, 2);
        needs("(begin (define a 1) (define a 2) a)", 9, 1);
        needs("(begin (define a 1) (define b 2) a)", 9, 2);
    }

    private static void combiners() {
        needs("(vau a b c)", 2, 1);
        needs("(lambda a b)", 2, 2);
        needs("(wrap if)", 3, 2);
    }

    private static void environments() {
        needs("(environment)", 2, 1);
        needs("(environment (scope))", 4, 2);
        needs("(apply list ())", 4, 3);
    }

    private static void pairs() {
        needs("((unwrap cons) 1 2)", 4, 2);
        needs("(cons 1 2)", 4, 3);
        needs("(list 1 2 3)", 5, 3);
        needs("(add 1 2)", 4, 2);
        needs("((wrap list) 1 2)", 8, 6);
        needs("(list (define a 1) (define b 2))", 8, 4);
    }

    private static void newEnvironmentOfCall() {
        needs(lisp -> lisp.run("(define f (vau #inert #inert 1))"), "(f 1 2)", 3, 1);
        needs(lisp -> lisp.run("(define f (vau (a b) #inert 1))"), "(f 1 2)", 3, 3);
        needs(lisp -> lisp.run("(define f (vau (a . b) c 1))"), "(f 1 2)", 3, 4);
        needs(lisp -> lisp.run("(define f (lambda (a) a))"), "(f 1)", 4, 3);
    }

    // ---- what does not count

    /** "The ground objects do not count" */
    private static void groundObjectsDoNotCount() {
        Lisp lisp = new Lisp(check);
        for (int symbol = 0; symbol < 26; symbol++) {
            if (symbol < 8 || symbol > 9) {
                lisp.x.pushSymbol(symbol);
                check.due("evaluate symbol " + symbol, lisp.x.evaluate(), 1);
                lisp.x.pushPart(0, 0);
                lisp.x.drop(symbol < 8 ? 1 : 2);
            }
        }
        check.due("heapSize()", lisp.x.heapSize(), 0);
    }

    private static void userEnvironmentDoesNotCount() {
        Lisp lisp = new Lisp(check);
        lisp.x.pushEnvironment();
        lisp.x.pushPart(0, 0);
        lisp.x.useEnvironment();
        lisp.x.useUser();
        check.due("heapSize()", lisp.x.heapSize(), 0);
    }

    private static void useGround(Lisp lisp) {
        lisp.push("#env");
        lisp.x.pushPart(0, 0);
        lisp.x.useEnvironment();
        lisp.x.drop(1);
    }

    /** "also those that are created later in the ground environment" */
    private static void newBindingsOfGroundCount() {
        Lisp lisp = new Lisp(check);
        useGround(lisp);
        lisp.costs("(define a 1)", 3, 1, 1);
        lisp.costs("(define s8 1)", 3, 1, 1);
        lisp.costs("(define s99 1)", 3, 1, 1);
        lisp.costs("(define a 2)", 3, 1, 0);
        needs(HeapEdgesTest::useGround, "(define a 1)", 3, 1);
    }

    private static void changedBindingsDoNotCount() {
        needs(lisp -> lisp.run("(define a 1)"), "(define a 2)", 3, 0);
        needs(lisp -> lisp.run("(define a 1)"), "(set (scope) a 2)", 5, 0);
        needs(HeapEdgesTest::useGround, "(define add 2)", 3, 0);
        needs(HeapEdgesTest::useGround, "(define if 2)", 3, 0);
        Lisp lisp = new Lisp(check);
        lisp.push("(define a 5)");
        lisp.run("(define a 1)");
        lisp.leaveRoom(0);
        lisp.x.evaluate();
        lisp.push("#env");
        lisp.x.pushBinding(0, 40);
        check.due("the value in the full heap", lisp.x.value(0), 5);
    }

    private static void evaluationsWithoutObjects() {
        String[] texts = {"5", "if", "(begin)", "(begin 1)", "(quote (1))", "(scope)", "(if #t 1 2)", "(add)", "(list)"};
        int[] steps = {1, 1, 2, 3, 2, 2, 4, 2, 2};
        for (int index = 0; index < texts.length; index++) {
            needs(texts[index], steps[index], 0);
        }
        needs(lisp -> lisp.run("(define f (wrap (wrap begin)))"), "(f)", 2, 0);
    }

    /** "objects are never removed, except by reset()" */
    private static void objectsAreNeverRemoved() {
        Lisp lisp = new Lisp(check);
        lisp.push("(1 2 3)");
        lisp.x.drop(1);
        check.due("heapSize() after drop()", lisp.x.heapSize(), 3);
        lisp.run("(define a (environment))");
        int before = lisp.x.heapSize();
        lisp.run("(define a 5)");
        check.due("heapSize() after another value", lisp.x.heapSize(), before + 3);
        lisp.fails("(cons 1 z)", UNBOUND);
        check.due("heapSize() after a failure", lisp.x.heapSize(), before + 3 + 3);
        lisp.x.useUser();
        lisp.x.setLimit(9);
        check.due("heapSize() at last", lisp.x.heapSize(), before + 6);
        check.due("reset()", lisp.x.reset(), before + 6);
        check.due("heapSize() after reset()", lisp.x.heapSize(), 0);
    }

    // ---- which error comes first

    /** What is checked before an object would be created fails in its own way in a full heap. */
    private static void otherErrorsComeFirst() {
        inRoom(NOTHING, "(define a z)", 0, UNBOUND, 0);
        inRoom(NOTHING, "(define 5 1)", 0, BAD_OPERANDS, 0);
        inRoom(NOTHING, "(set 5 a 1)", 0, BAD_OPERANDS, 0);
        inRoom(NOTHING, "(vau 1 b c)", 0, BAD_OPERANDS, 0);
        inRoom(NOTHING, "(vau a a c)", 0, BAD_OPERANDS, 0);
        inRoom(NOTHING, "(lambda (a a) c)", 0, BAD_OPERANDS, 0);
        inRoom(NOTHING, "(list 1 z)", 0, UNBOUND, 0);
        inRoom(NOTHING, "(list . 1)", 0, BAD_OPERANDS, 0);
        inRoom(lisp -> lisp.run("(define f (vau (a) b c))"), "(f)", 0, BAD_OPERANDS, 0);
    }

    /** The list of operands is created before the primitive operative looks at it. */
    private static void listComesBeforeItsUse() {
        inRoom(NOTHING, "(add #t)", 0, HEAP_FULL, 0);
        inRoom(NOTHING, "(add #t)", 1, BAD_OPERANDS, 0);
        inRoom(NOTHING, "(add 1000000000000000 1)", 1, HEAP_FULL, 0);
        inRoom(NOTHING, "(add 1000000000000000 1)", 2, ScopeInterpreter.OVERFLOW, 0);
        inRoom(NOTHING, "(wrap 5)", 1, BAD_OPERANDS, 0);
        inRoom(NOTHING, "(environment 5)", 1, BAD_OPERANDS, 0);
        inRoom(NOTHING, "(apply 5 ())", 2, BAD_OPERANDS, 0);
        inRoom(NOTHING, "(cons 1)", 1, BAD_OPERANDS, 0);
        inRoom(NOTHING, "(apply list 5)", 3, ScopeInterpreter.BAD_OPERANDS, 0);
    }

    // ---- what stays

    private static void whatWasDoneStays() {
        inRoom(NOTHING, "(begin (define a 1) (define b 2))", 1, HEAP_FULL, 0);
        Lisp lisp = withRoom(NOTHING, "(begin (define a 1) (cons 1 2))", 3);
        check.due("a binding, and two of three pairs", lisp.x.evaluate(), HEAP_FULL);
        lisp.push("#env");
        check.due("the binding stays", lisp.x.pushBinding(0, 40), 2);
        check.due("its value", lisp.x.value(0), 1);
        check.due("heapSize()", lisp.x.heapSize(), 4000);
    }

    private static void afterFullHeap() {
        Lisp lisp = withRoom(NOTHING, "(cons 1 2)", 1);
        check.due("evaluate()", lisp.x.evaluate(), HEAP_FULL);
        lisp.x.pushInteger(3);
        check.due("a value is still evaluated", lisp.x.evaluate(), 1);
        lisp.x.pushInteger(4);
        check.due("makePair()", lisp.x.makePair(), HEAP_FULL);
        check.due("makeList(1)", lisp.x.makeList(1), HEAP_FULL);
        check.due("makeList(0)", lisp.x.makeList(0), 3);
        check.due("size()", lisp.x.size(), 3);
    }
}
