/** The edges of promises 1, 10 to 13 and 25: a new object, pairs, lists, drop, reset and heapSize. */
public final class BuildEdgesTest {
    private static final int BAD_VALUE = ScopeInterpreter.BAD_VALUE;
    private static final int TOO_FEW = ScopeInterpreter.TOO_FEW;
    private static final int STACK_FULL = ScopeInterpreter.STACK_FULL;
    private static final int HEAP_FULL = ScopeInterpreter.HEAP_FULL;
    private static final int LEAST_INT = Integer.MIN_VALUE;
    private static final int GREATEST_INT = Integer.MAX_VALUE;
    private static final Check check = new Check();
    private static final Twin twin = new Twin(check);
    private static final Twin.Setup EMPTY = lisp -> { };
    private static final Twin.Setup FULL = lisp -> Lisp.fillStack(lisp.x);

    public static void main(String[] args) {
        newObjectIsEmpty();
        newObjectHasLimitOfThousand();
        newUserEnvironment();
        pairOfTooFew();
        pairOfTwo();
        pairOnFullHeap();
        pairOnFullStack();
        listOutOfRange();
        listOfTooFew();
        listOfAllValues();
        listOnFullHeap();
        emptyListOnFullStack();
        emptyListOnFullHeap();
        orderOfElements();
        dropOutOfRange();
        dropOfTooFew();
        dropOfNoneAndAll();
        resetOfNewObject();
        resetAnswersObjects();
        resetMakesNew();
        roomAfterReset();
        heapSizeOfNoneAndAll();
        check.finish();
    }

    private static Twin.Setup integers(int count) {
        return lisp -> {
            for (int number = 0; number < count; number++) {
                lisp.x.pushInteger(number);
            }
        };
    }

    /** A heap with so much room, and below so many integers nothing else. */
    private static Twin.Setup withRoom(int room, int values) {
        return lisp -> {
            lisp.leaveRoom(room);
            integers(values).build(lisp);
        };
    }

    // ---- a new object

    private static void newObjectIsEmpty() {
        ScopeInterpreter x = new ScopeInterpreter();
        check.due("new: size()", x.size(), 0);
        check.due("new: kind(0)", x.kind(0), TOO_FEW);
        check.due("new: heapSize()", x.heapSize(), 0);
        check.due("new: latest(0)", x.latest(0), 0);
        check.due("new: latest(1)", x.latest(1), 0);
        check.due("new: reset()", x.reset(), 0);
    }

    private static void newObjectHasLimitOfThousand() {
        check.due("new: setLimit(1)", new ScopeInterpreter().setLimit(1), 1000);
        Lisp lisp = new Lisp(check);
        lisp.run("(define f (vau () #inert (f)))");
        lisp.failsAfter("(f)", ScopeInterpreter.STEP_LIMIT, 1000, 1, 500);
    }

    private static void newUserEnvironment() {
        ScopeInterpreter x = new ScopeInterpreter();
        check.due("new: useUser()", x.useUser(), 0);
        x.pushEnvironment();
        check.due("new: bindings of user", x.bindingCount(0), 0);
        check.due("new: user has a parent", x.pushPart(0, 0), 2);
        check.due("new: bindings of ground", x.bindingCount(0), 24);
        check.due("new: ground has none", x.pushPart(0, 0), ScopeInterpreter.NONE);
    }

    // ---- makePair: TOO_FEW; HEAP_FULL

    private static void pairOfTooFew() {
        twin.changesNothing("makePair() of none", EMPTY, ScopeInterpreter::makePair, TOO_FEW);
        twin.changesNothing("makePair() of one", integers(1), ScopeInterpreter::makePair, TOO_FEW);
        twin.changesNothing("full heap: makePair() of one", withRoom(0, 1), ScopeInterpreter::makePair, TOO_FEW);
        twin.changesNothing("full heap: makePair() of none", withRoom(0, 0), ScopeInterpreter::makePair, TOO_FEW);
    }

    private static void pairOfTwo() {
        Lisp lisp = new Lisp(check);
        integers(2).build(lisp);
        check.due("makePair() of two", lisp.x.makePair(), 1);
        check.due("heapSize()", lisp.x.heapSize(), 1);
        lisp.x.pushPart(0, 1);
        check.due("the cdr is the uppermost one", lisp.x.value(0), 1);
        lisp.x.pushPart(1, 0);
        check.due("the car is the one below", lisp.x.value(0), 0);
    }

    private static void pairOnFullHeap() {
        Lisp lisp = new Lisp(check);
        withRoom(1, 3).build(lisp);
        check.due("makePair(), the 4000th object", lisp.x.makePair(), 2);
        check.due("heapSize()", lisp.x.heapSize(), 4000);
        check.due("makePair(), a 4001st object", lisp.x.makePair(), HEAP_FULL);
        twin.changesNothing("full heap: makePair()", withRoom(0, 3), ScopeInterpreter::makePair, HEAP_FULL);
    }

    private static void pairOnFullStack() {
        Lisp lisp = new Lisp(check);
        FULL.build(lisp);
        check.due("full stack: makePair()", lisp.x.makePair(), 39);
    }

    // ---- makeList: 0 to 40; BAD_VALUE; TOO_FEW; HEAP_FULL; STACK_FULL

    private static void listOutOfRange() {
        int[] bad = {-1, 41, LEAST_INT, GREATEST_INT};
        for (int n : bad) {
            twin.changesNothing("makeList(" + n + ")", integers(3), x -> x.makeList(n), BAD_VALUE);
            twin.changesNothing("empty: makeList(" + n + ")", EMPTY, x -> x.makeList(n), BAD_VALUE);
            twin.changesNothing("full: makeList(" + n + ")", FULL, x -> x.makeList(n), BAD_VALUE);
            twin.changesNothing("full heap: makeList(" + n + ")", withRoom(0, 3), x -> x.makeList(n), BAD_VALUE);
        }
    }

    private static void listOfTooFew() {
        twin.changesNothing("makeList(1) of none", EMPTY, x -> x.makeList(1), TOO_FEW);
        twin.changesNothing("makeList(4) of 3", integers(3), x -> x.makeList(4), TOO_FEW);
        twin.changesNothing("makeList(40) of 39", integers(39), x -> x.makeList(40), TOO_FEW);
        twin.changesNothing("full heap: makeList(4) of 3", withRoom(0, 3), x -> x.makeList(4), TOO_FEW);
    }

    private static void listOfAllValues() {
        int[] counts = {1, 3, 39, 40};
        for (int n : counts) {
            Lisp lisp = new Lisp(check);
            integers(n).build(lisp);
            check.due("makeList(" + n + ") of as many", lisp.x.makeList(n), 1);
            check.due("length(0)", lisp.x.length(0), n);
            check.due("heapSize()", lisp.x.heapSize(), n);
        }
    }

    /** "HEAP_FULL if there is not room for all of these pairs" */
    private static void listOnFullHeap() {
        Lisp lisp = new Lisp(check);
        withRoom(3, 5).build(lisp);
        check.due("room for 3: makeList(3)", lisp.x.makeList(3), 3);
        check.due("heapSize()", lisp.x.heapSize(), 4000);
        twin.changesNothing("room for 3: makeList(4)", withRoom(3, 5), x -> x.makeList(4), HEAP_FULL);
        twin.changesNothing("room for 39: makeList(40)", withRoom(39, 40), x -> x.makeList(40), HEAP_FULL);
        twin.changesNothing("room for none: makeList(1)", withRoom(0, 1), x -> x.makeList(1), HEAP_FULL);
        twin.changesNothing("full stack too: makeList(1)", withRoom(0, 40), x -> x.makeList(1), HEAP_FULL);
        Lisp most = new Lisp(check);
        withRoom(40, 40).build(most);
        check.due("room for 40: makeList(40)", most.x.makeList(40), 1);
        check.due("heapSize()", most.x.heapSize(), 4000);
    }

    /** "STACK_FULL (only for n = 0)" */
    private static void emptyListOnFullStack() {
        Lisp lisp = new Lisp(check);
        integers(39).build(lisp);
        check.due("makeList(0) of 39", lisp.x.makeList(0), 40);
        check.due("kind(0)", lisp.x.kind(0), 3);
        check.due("heapSize()", lisp.x.heapSize(), 0);
        twin.changesNothing("full: makeList(0)", FULL, x -> x.makeList(0), STACK_FULL);
        twin.changesNothing("full heap too: makeList(0)", withRoom(0, 40), x -> x.makeList(0), STACK_FULL);
        Lisp full = new Lisp(check);
        FULL.build(full);
        check.due("full: makeList(1)", full.x.makeList(1), 40);
    }

    private static void emptyListOnFullHeap() {
        Lisp lisp = new Lisp(check);
        withRoom(0, 2).build(lisp);
        check.due("full heap: makeList(0)", lisp.x.makeList(0), 3);
        check.due("kind(0)", lisp.x.kind(0), 3);
        Lisp empty = new Lisp(check);
        check.due("empty stack: makeList(0)", empty.x.makeList(0), 1);
    }

    /** "the first element is the lowest one of these values" */
    private static void orderOfElements() {
        Lisp lisp = new Lisp(check);
        integers(31).build(lisp);
        lisp.x.makeList(30);
        check.due("what is below stays", lisp.x.value(1), 0);
        for (int number = 1; number <= 30; number++) {
            lisp.x.pushPart(0, 0);
            check.due("element " + number, lisp.x.value(0), number);
            lisp.x.drop(1);
            lisp.x.pushPart(0, 1);
        }
        check.due("the last cdr is nil", lisp.x.kind(0), Lisp.NIL);
    }

    // ---- drop: 0 to 40; BAD_VALUE; TOO_FEW

    private static void dropOutOfRange() {
        int[] bad = {-1, 41, LEAST_INT, GREATEST_INT};
        for (int n : bad) {
            twin.changesNothing("drop(" + n + ")", integers(3), x -> x.drop(n), BAD_VALUE);
            twin.changesNothing("empty: drop(" + n + ")", EMPTY, x -> x.drop(n), BAD_VALUE);
            twin.changesNothing("full: drop(" + n + ")", FULL, x -> x.drop(n), BAD_VALUE);
        }
    }

    private static void dropOfTooFew() {
        twin.changesNothing("drop(1) of none", EMPTY, x -> x.drop(1), TOO_FEW);
        twin.changesNothing("drop(4) of 3", integers(3), x -> x.drop(4), TOO_FEW);
        twin.changesNothing("drop(40) of 39", integers(39), x -> x.drop(40), TOO_FEW);
    }

    private static void dropOfNoneAndAll() {
        twin.changesNothing("drop(0) of 3", integers(3), x -> x.drop(0), 3);
        twin.changesNothing("drop(0) of none", EMPTY, x -> x.drop(0), 0);
        int[] counts = {1, 3, 39, 40};
        for (int n : counts) {
            Lisp lisp = new Lisp(check);
            integers(n).build(lisp);
            check.due("drop(" + n + ") of as many", lisp.x.drop(n), 0);
            check.due("size()", lisp.x.size(), 0);
        }
        twin.leadToTheSame("drop(2) of 5 leaves the lower 3",
                lisp -> {
                    integers(5).build(lisp);
                    lisp.x.drop(2);
                }, integers(3));
    }

    // ---- reset

    private static void resetOfNewObject() {
        twin.changesNothing("reset() of a new object", EMPTY, ScopeInterpreter::reset, 0);
    }

    private static void resetAnswersObjects() {
        int[] rooms = {0, 1, 3000};
        for (int room : rooms) {
            Lisp lisp = new Lisp(check);
            lisp.leaveRoom(room);
            check.due("room for " + room + ": reset()", lisp.x.reset(), 4000 - room);
            check.due("reset() again", lisp.x.reset(), 0);
        }
        Lisp lisp = new Lisp(check);
        lisp.push("(1 2)");
        lisp.x.drop(1);
        check.due("objects that nobody holds count: reset()", lisp.x.reset(), 2);
    }

    /** "everything is as at first, also the limit and the present environment" */
    private static void resetMakesNew() {
        Twin.Setup[] changes = {
            FULL,
            lisp -> lisp.push("(1 (2 . a) #t)"),
            lisp -> lisp.run("(define a 1)"),
            lisp -> lisp.x.setLimit(1500),
            lisp -> lisp.run("(add 1 (add 2))"),
            lisp -> lisp.fails("z", ScopeInterpreter.UNBOUND),
            lisp -> {
                lisp.evaluate("(environment)");
                lisp.x.useEnvironment();
            },
            lisp -> {
                useGround(lisp);
                lisp.run("(define add multiply)");
                lisp.run("(define a 1)");
            },
            lisp -> lisp.leaveRoom(0)
        };
        for (int index = 0; index < changes.length; index++) {
            Twin.Setup change = changes[index];
            Twin.Setup changed = lisp -> {
                change.build(lisp);
                lisp.x.reset();
            };
            twin.leadToTheSame("reset() after change " + index, changed, EMPTY);
        }
    }

    private static void useGround(Lisp lisp) {
        lisp.push("#env");
        lisp.x.pushPart(0, 0);
        lisp.x.useEnvironment();
    }

    private static void roomAfterReset() {
        Lisp lisp = new Lisp(check);
        lisp.leaveRoom(0);
        lisp.x.reset();
        check.due("heapSize() after reset()", lisp.x.heapSize(), 0);
        lisp.leaveRoom(0);
        check.due("heapSize(), filled again", lisp.x.heapSize(), 4000);
        lisp.x.reset();
        lisp.givesInteger("((lambda (a . b) (add a (car b))) 3 4)", 7);
    }

    // ---- heapSize

    private static void heapSizeOfNoneAndAll() {
        twin.changesNothing("new: heapSize()", EMPTY, ScopeInterpreter::heapSize, 0);
        twin.changesNothing("pairs: heapSize()", lisp -> lisp.push("(1 (2) 3)"), ScopeInterpreter::heapSize, 4);
        twin.changesNothing("room for 1: heapSize()", withRoom(1, 2), ScopeInterpreter::heapSize, 3999);
        twin.changesNothing("full: heapSize()", withRoom(0, 2), ScopeInterpreter::heapSize, 4000);
    }
}
