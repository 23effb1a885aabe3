/** The edges of promises 20, 23 and 24 and of "The machine": steps, frames, and what fails when. */
public final class MachineEdgesTest {
    private static final int BAD_VALUE = ScopeInterpreter.BAD_VALUE;
    private static final int TOO_FEW = ScopeInterpreter.TOO_FEW;
    private static final int HEAP_FULL = ScopeInterpreter.HEAP_FULL;
    private static final int UNBOUND = ScopeInterpreter.UNBOUND;
    private static final int NOT_COMBINER = ScopeInterpreter.NOT_COMBINER;
    private static final int BAD_OPERANDS = ScopeInterpreter.BAD_OPERANDS;
    private static final int OVERFLOW = ScopeInterpreter.OVERFLOW;
    private static final int STEP_LIMIT = ScopeInterpreter.STEP_LIMIT;
    private static final int DEPTH_LIMIT = ScopeInterpreter.DEPTH_LIMIT;
    private static final Check check = new Check();
    private static final Twin twin = new Twin(check);
    private static final Twin.Setup EMPTY = lisp -> { };
    /** Calls itself n times, in its tail: (f n) takes 10 + 12 n steps. */
    private static final String COUNT_DOWN = "(define f (lambda (n) (if (less n 1) 0 (f (subtract n 1)))))";

    public static void main(String[] args) {
        evaluateOfTooFew();
        valueIsRemoved();
        resultTakesItsPlace();
        presentAndLimitStay();
        whatWasDoneStays();
        limitOutOfRange();
        limitAtItsEnds();
        limitStays();
        stepsUpToLimit();
        stepsUpToThousand();
        stepsUpToGreatestLimit();
        limitOfOne();
        stepLimitAmongOtherErrors();
        framesOfParts();
        noFrameInTail();
        threeHundredFrames();
        framesOfEachKind();
        frameIsTakenAway();
        depthBeforeSteps();
        depthAndFullHeap();
        framesAfterFailure();
        nestedApplicatives();
        latestOutOfRange();
        latestOfEachOutcome();
        latestOfLatest();
        check.finish();
    }

    // ---- evaluate

    /** "TOO_FEW if the stack is empty (nothing changes then)" */
    private static void evaluateOfTooFew() {
        twin.changesNothing("evaluate() of none", EMPTY, ScopeInterpreter::evaluate, TOO_FEW);
        twin.changesNothing("evaluate() of none, after others", lisp -> {
            lisp.run("(define a (add 1 (add 2)))");
            lisp.x.setLimit(17);
        }, ScopeInterpreter::evaluate, TOO_FEW);
    }

    /** "If the evaluation fails, nothing is pushed, and the value is removed all the same." */
    private static void valueIsRemoved() {
        String[] texts = {"z", "(5)", "(if)", "(add 1000000000000000 1)", "(add . 5)"};
        int[] errors = {UNBOUND, NOT_COMBINER, BAD_OPERANDS, OVERFLOW, BAD_OPERANDS};
        for (int index = 0; index < texts.length; index++) {
            Lisp lisp = new Lisp(check);
            for (int number = 0; number < 35; number++) {
                lisp.x.pushInteger(number);
            }
            lisp.push(texts[index]);
            check.due(texts[index], lisp.x.evaluate(), errors[index]);
            check.due("size()", lisp.x.size(), 35);
            for (int depth = 0; depth < 35; depth++) {
                check.due("value(" + depth + ")", lisp.x.value(depth), 34 - depth);
            }
            Lisp alone = new Lisp(check);
            alone.push(texts[index]);
            check.due(texts[index] + " alone", alone.x.evaluate(), errors[index]);
            check.due("size()", alone.x.size(), 0);
        }
    }

    private static void resultTakesItsPlace() {
        Lisp lisp = new Lisp(check);
        Lisp.fillStack(lisp.x);
        check.due("evaluate(), full", lisp.x.evaluate(), 1);
        check.due("size()", lisp.x.size(), 40);
        lisp.x.drop(5);
        lisp.push("(add 1 2)");
        check.due("evaluate()", lisp.x.evaluate(), 4);
        check.due("size()", lisp.x.size(), 36);
        check.due("the result", lisp.x.value(0), 3);
        check.due("what is below", lisp.x.value(1), 1);
        lisp.x.drop(35);
        lisp.x.drop(1);
        lisp.x.pushInteger(-3);
        check.due("evaluate() of one", lisp.x.evaluate(), 1);
        check.due("size()", lisp.x.size(), 1);
    }

    private static void presentAndLimitStay() {
        Lisp lisp = new Lisp(check);
        lisp.evaluate("(environment (scope))");
        lisp.x.useEnvironment();
        lisp.x.setLimit(50);
        lisp.run("((lambda (a) (eval (quote (add a 1)) (scope))) 5)");
        lisp.fails("((lambda (a) (eval (quote z) (scope))) 5)", UNBOUND);
        lisp.run("(define a 5)");
        check.due("setLimit()", lisp.x.setLimit(50), 50);
        check.due("useUser()", lisp.x.useUser(), 1);
        lisp.fails("a", UNBOUND);
    }

    /** "What an evaluation has done before it fails (objects and bindings) stays." */
    private static void whatWasDoneStays() {
        String[] failing = {"z", "(5)", "(if)", "(add 1000000000000000 1)"};
        int[] errors = {UNBOUND, NOT_COMBINER, BAD_OPERANDS, OVERFLOW};
        int[] steps = {9, 10, 10, 12};
        int[] objects = {4, 4, 4, 6};
        for (int index = 0; index < failing.length; index++) {
            Lisp lisp = new Lisp(check);
            String text = "(begin (define a (cons 4 2)) " + failing[index] + ")";
            lisp.failsAfter(text, errors[index], steps[index], 3, objects[index]);
            lisp.givesInteger("(car a)", 4);
        }
        Lisp steps5 = new Lisp(check);
        steps5.x.setLimit(5);
        steps5.failsAfter("(begin (define a 1) (define b 2))", STEP_LIMIT, 5, 2, 1);
        steps5.givesInteger("a", 1);
        Lisp deep = new Lisp(check);
        deep.run("(define g (vau () #inert (begin (g) 1)))");
        deep.x.setLimit(1500);
        deep.push("(begin (define a 1) (g))");
        check.due("too deep", deep.x.evaluate(), DEPTH_LIMIT);
        deep.givesInteger("a", 1);
    }

    // ---- setLimit

    private static void limitOutOfRange() {
        int[] bad = {0, -1, 1501, Integer.MIN_VALUE, Integer.MAX_VALUE};
        for (int steps : bad) {
            twin.changesNothing("setLimit(" + steps + ")", EMPTY, x -> x.setLimit(steps), BAD_VALUE);
            twin.changesNothing("setLimit(" + steps + "), not new", lisp -> lisp.x.setLimit(7),
                    x -> x.setLimit(steps), BAD_VALUE);
        }
    }

    private static void limitAtItsEnds() {
        ScopeInterpreter x = new ScopeInterpreter();
        check.due("setLimit(1)", x.setLimit(1), 1000);
        check.due("setLimit(1500)", x.setLimit(1500), 1);
        check.due("setLimit(2)", x.setLimit(2), 1500);
        check.due("setLimit(1499)", x.setLimit(1499), 2);
        check.due("setLimit(1499) again", x.setLimit(1499), 1499);
    }

    /** "for each following evaluation" */
    private static void limitStays() {
        Lisp lisp = new Lisp(check);
        lisp.x.setLimit(4);
        for (int count = 0; count < 3; count++) {
            lisp.costs("(add 1 2)", 4, 1, 2);
            lisp.failsAfter("(add 1 2 3)", STEP_LIMIT, 4, 1, 0);
        }
    }

    // ---- steps

    private static void stepsUpToLimit() {
        String[] texts = {
            "5", "if", "()", "(begin)", "(quote z)", "(add 1 2)", "(begin 1 2 3)", "(if #t 1 2)", "(define a 1)",
            "(set (scope) a 1)", "((lambda (a) a) 5)", "((vau (a) b a) 5)", "(eval 1 (scope))", "(apply add ())",
            "((wrap begin) 1)", "(add (add (add 1)))"
        };
        int[] steps = {1, 1, 1, 2, 2, 4, 5, 4, 3, 5, 5, 4, 6, 4, 6, 7};
        for (int index = 0; index < texts.length; index++) {
            Lisp lisp = new Lisp(check);
            lisp.x.setLimit(steps[index]);
            check.due(texts[index], lisp.evaluate(texts[index]), steps[index]);
            check.due(texts[index] + ": latest(0)", lisp.x.latest(0), steps[index]);
            for (int limit = 1; limit < steps[index]; limit++) {
                Lisp limited = new Lisp(check);
                limited.x.setLimit(limit);
                check.due(texts[index] + " in " + limit, limited.evaluate(texts[index]), STEP_LIMIT);
                check.due(texts[index] + " in " + limit + ": latest(0)", limited.x.latest(0), limit);
                check.due(texts[index] + " in " + limit + ": size()", limited.x.size(), 0);
            }
        }
    }

    private static void stepsUpToThousand() {
        Lisp lisp = new Lisp(check);
        lisp.run(COUNT_DOWN);
        check.due("1000 steps", lisp.evaluate("(begin 0 0 0 0 (f 82))"), 1000);
        check.due("latest(0)", lisp.x.latest(0), 1000);
        check.due("1001 steps", lisp.evaluate("(begin 0 0 0 0 0 (f 82))"), STEP_LIMIT);
        check.due("latest(0)", lisp.x.latest(0), 1000);
    }

    private static void stepsUpToGreatestLimit() {
        Lisp lisp = new Lisp(check);
        lisp.x.setLimit(1500);
        lisp.run(COUNT_DOWN);
        check.due("1500 steps", lisp.evaluate("(begin (f 124))"), 1500);
        check.due("latest(0)", lisp.x.latest(0), 1500);
        check.due("value", lisp.x.value(0), 0);
        check.due("1501 steps", lisp.evaluate("(begin 0 (f 124))"), STEP_LIMIT);
        check.due("latest(0)", lisp.x.latest(0), 1500);
        lisp.x.setLimit(1499);
        check.due("1500 steps, limit 1499", lisp.evaluate("(begin (f 124))"), STEP_LIMIT);
        check.due("latest(0)", lisp.x.latest(0), 1499);
    }

    private static void limitOfOne() {
        Lisp lisp = new Lisp(check);
        lisp.x.setLimit(1);
        lisp.costs("5", 1, 0, 0);
        lisp.costs("add", 1, 0, 0);
        lisp.failsAfter("z", UNBOUND, 1, 0, 0);
        lisp.failsAfter("(begin)", STEP_LIMIT, 1, 1, 0);
        lisp.failsAfter("((begin))", STEP_LIMIT, 1, 1, 0);
    }

    /** "whichever comes first": an error in the last step that is allowed, and one behind it. */
    private static void stepLimitAmongOtherErrors() {
        Lisp lisp = new Lisp(check);
        lisp.x.setLimit(2);
        lisp.failsAfter("(5 1)", NOT_COMBINER, 2, 1, 0);
        lisp.failsAfter("(z 1)", UNBOUND, 2, 1, 0);
        lisp.failsAfter("(add . 1)", BAD_OPERANDS, 2, 1, 0);
        lisp.failsAfter("(if 1)", BAD_OPERANDS, 2, 1, 0);
        lisp.failsAfter("(add z)", STEP_LIMIT, 2, 1, 0);
        lisp.x.setLimit(3);
        lisp.failsAfter("(add z)", UNBOUND, 3, 1, 0);
        lisp.failsAfter("(add #t)", BAD_OPERANDS, 3, 1, 1);
        lisp.failsAfter("(add 1000000000000000 1)", STEP_LIMIT, 3, 1, 0);
        lisp.x.setLimit(4);
        lisp.failsAfter("(add 1000000000000000 1)", OVERFLOW, 4, 1, 2);
        lisp.x.setLimit(1000);
        lisp.leaveRoom(20);
        lisp.push("(cons 1 2)");
        lisp.x.pushCopy(0);
        lisp.waste(4000 - lisp.x.heapSize());
        lisp.x.setLimit(3);
        check.due("three steps in the full heap", lisp.x.evaluate(), STEP_LIMIT);
        lisp.x.setLimit(4);
        check.due("four steps in the full heap", lisp.x.evaluate(), HEAP_FULL);
        check.due("latest(0)", lisp.x.latest(0), 4);
    }

    // ---- frames

    /** What is evaluated "with a frame" has one more than the whole; here each part needs another one. */
    private static void framesOfParts() {
        Lisp lisp = new Lisp(check);
        lisp.costs("5", 1, 0, 0);
        lisp.costs("(begin)", 2, 1, 0);
        lisp.costs("((begin begin))", 4, 2, 0);
        lisp.costs("(list (list))", 4, 2, 1);
        lisp.costs("(list 1 (list))", 5, 2, 2);
        lisp.costs("(if (if #t #f #t) 1 2)", 7, 2, 0);
        lisp.costs("(define a (begin))", 4, 2, 1);
        lisp.costs("(set (begin #env) a 1)", 6, 2, 0);
        lisp.costs("(set #env a (begin))", 5, 2, 0);
        lisp.costs("(begin (begin) 1)", 5, 2, 0);
        lisp.costs("(begin 1 (begin) 1)", 6, 2, 0);
        lisp.costs("(list (list (list (list))))", 8, 4, 3);
    }

    /** What is evaluated "without a frame" needs none, however often it goes on. */
    private static void noFrameInTail() {
        Lisp lisp = new Lisp(check);
        lisp.costs("(begin (begin (begin (begin))))", 8, 1, 0);
        lisp.costs("(if #t (if #f 1 (if #t (begin) 2)) 3)", 11, 1, 0);
        lisp.costs("(eval (quote (begin (begin))) #env)", 9, 2, 2);
        lisp.costs("((vau () #inert (begin (begin))))", 7, 2, 2);
        lisp.costs("((lambda () (begin (begin))))", 7, 2, 3);
        lisp.costs("(apply (wrap begin) ())", 6, 2, 5);
        lisp.costs("((wrap (wrap begin)) (quote (begin)))", 11, 3, 6);
        lisp.run(COUNT_DOWN);
        check.due("(f 80)", lisp.evaluate("(f 80)"), 970);
        check.due("latest(1)", lisp.x.latest(1), 2);
        Lisp other = new Lisp(check);
        other.run("(define g (vau () #inert (begin 1 (if #t (eval (quote (g)) #env) 2))))");
        other.push("(g)");
        check.due("(g)", other.x.evaluate(), STEP_LIMIT);
        check.due("latest(1)", other.x.latest(1), 2);
    }

    /** "If a frame would be put down where there are 300 frames already" */
    private static void threeHundredFrames() {
        Lisp lisp = new Lisp(check);
        lisp.run("(define w (vau #inert #inert w))");
        lisp.push("w");
        lisp.nest(300);
        check.due("300 frames", lisp.x.evaluate(), 601);
        check.due("latest(1)", lisp.x.latest(1), 300);
        check.due("its result", lisp.x.kind(0), Lisp.OPERATIVE);
        Lisp deeper = new Lisp(check);
        deeper.run("(define w (vau #inert #inert w))");
        deeper.push("w");
        deeper.nest(301);
        int objects = deeper.x.heapSize();
        check.due("301 frames", deeper.x.evaluate(), DEPTH_LIMIT);
        check.due("the last one is not begun: latest(0)", deeper.x.latest(0), 301);
        check.due("latest(1)", deeper.x.latest(1), 300);
        check.due("heapSize()", deeper.x.heapSize(), objects);
        check.due("size()", deeper.x.size(), 0);
    }

    /** The text gives w, and needs so many frames: then it fails where there is one less. */
    private static void needsFrames(String text, int frames) {
        for (int above = 300 - frames; above <= 301 - frames; above++) {
            Lisp lisp = new Lisp(check);
            lisp.x.setLimit(1500);
            lisp.run("(define w (vau #inert #inert w))");
            lisp.push(text);
            lisp.nest(above);
            int answer = lisp.x.evaluate();
            boolean isDue = above + frames == 300 ? answer > 0 : answer == DEPTH_LIMIT;
            check.due(text + " in " + above + " frames", isDue);
            check.due(text + ": latest(1)", lisp.x.latest(1), 300);
        }
    }

    private static void framesOfEachKind() {
        needsFrames("(w)", 1);
        needsFrames("((w))", 2);
        needsFrames("(car (list w))", 2);
        needsFrames("(car (cons w (list)))", 3);
        needsFrames("(if (begin #t) w w)", 2);
        needsFrames("(begin (begin) w)", 2);
        needsFrames("(begin 1 (begin) w)", 2);
        needsFrames("(begin 1 (begin 2 w))", 1);
        needsFrames("(begin (define a (begin)) w)", 3);
        needsFrames("(begin (set (begin #env) a 1) w)", 3);
        needsFrames("(begin (set #env a (begin)) w)", 3);
        needsFrames("(eval (quote w) #env)", 2);
        needsFrames("(if #t (begin w) w)", 1);
    }

    /** "taken away when its result is there, before the result is used" */
    private static void frameIsTakenAway() {
        Lisp lisp = new Lisp(check);
        lisp.costs("(list 1 2 3 4)", 6, 1, 4);
        lisp.costs("(list (list 1) (list 2))", 8, 2, 4);
        lisp.costs("((begin list) 1 (begin 2))", 8, 2, 2);
        lisp.costs("((begin begin) (begin 1) (begin (begin 2)))", 12, 2, 0);
        lisp.costs("(begin (begin) (begin) (begin))", 8, 2, 0);
        lisp.costs("(set (begin #env) a (begin 1))", 8, 2, 1);
        lisp.costs("(if (begin #t) (begin 1) 2)", 8, 2, 0);
        needsFrames("(begin w w w)", 1);
        needsFrames("(car (list w w w))", 2);
    }

    /** A frame is put down before the step, so the two limits come one behind the other. */
    private static void depthBeforeSteps() {
        int[] limits = {300, 301, 302};
        int[] due = {STEP_LIMIT, DEPTH_LIMIT, DEPTH_LIMIT};
        for (int index = 0; index < limits.length; index++) {
            Lisp lisp = new Lisp(check);
            lisp.push("begin");
            lisp.nest(301);
            lisp.x.setLimit(limits[index]);
            check.due("301 frames in " + limits[index] + " steps", lisp.x.evaluate(), due[index]);
            check.due("latest(0)", lisp.x.latest(0), Math.min(limits[index], 301));
            check.due("latest(1)", lisp.x.latest(1), 300);
        }
    }

    /** Where the frames do not suffice, the operatives that would need objects are not yet called. */
    private static void depthAndFullHeap() {
        int[] frames = {300, 301};
        int[] due = {HEAP_FULL, DEPTH_LIMIT};
        for (int index = 0; index < frames.length; index++) {
            Lisp lisp = new Lisp(check);
            lisp.run("(define w (vau #inert #inert w))");
            lisp.push("w");
            lisp.nest(frames[index]);
            lisp.leaveRoom(0);
            check.due(frames[index] + " frames in the full heap", lisp.x.evaluate(), due[index]);
            check.due("latest(0)", lisp.x.latest(0), 301);
        }
    }

    /** What a failure leaves unfinished is in nobody's way. */
    private static void framesAfterFailure() {
        Lisp lisp = new Lisp(check);
        lisp.push("z");
        lisp.nest(290);
        for (int count = 0; count < 3; count++) {
            lisp.x.pushCopy(0);
            check.due("failure in 290 frames", lisp.x.evaluate(), UNBOUND);
            check.due("latest(1)", lisp.x.latest(1), 290);
        }
        lisp.costs("(list 1 (list 2))", 6, 2, 3);
        Lisp arguments = new Lisp(check);
        arguments.push("(list 1 2 3 4 5 6 7 8 9 10 11 12 13 14 15 16 17 18 19 20 (add 1 2 3 4 5 6 7 8 9 z))");
        for (int count = 0; count < 100; count++) {
            arguments.x.pushCopy(0);
            check.due("failure among arguments", arguments.x.evaluate(), UNBOUND);
        }
        arguments.givesList("(list 1 (add 2) 3)", 1, 2, 3);
    }

    /** "the underlying combiner is combined with this list .. without a frame", also 400 times. */
    private static void nestedApplicatives() {
        Lisp lisp = new Lisp(check);
        lisp.run("(define w begin)");
        lisp.push("(define w (wrap w))");
        lisp.push("begin");
        for (int count = 0; count < 20; count++) {
            lisp.x.pushCopy(count + 1);
        }
        lisp.x.makeList(21);
        for (int round = 0; round < 20; round++) {
            lisp.x.pushCopy(0);
            check.due("20 more", lisp.x.evaluate(), 102);
            lisp.x.drop(1);
        }
        lisp.costs("(w)", 2, 1, 0);
        lisp.givesKind("(w)", 8);
        lisp.costs("(w 5)", 2 + 400 + 1, 1, 400);
    }

    // ---- latest

    private static void latestOutOfRange() {
        int[] bad = {-1, 2, Integer.MIN_VALUE, Integer.MAX_VALUE};
        for (int what : bad) {
            twin.changesNothing("latest(" + what + ")", EMPTY, x -> x.latest(what), BAD_VALUE);
            twin.changesNothing("latest(" + what + ")", lisp -> lisp.run("(add 1)"), x -> x.latest(what), BAD_VALUE);
        }
        twin.changesNothing("latest(0) of a new object", EMPTY, x -> x.latest(0), 0);
        twin.changesNothing("latest(1) of a new object", EMPTY, x -> x.latest(1), 0);
        twin.changesNothing("latest(0)", lisp -> lisp.run("(add 1)"), x -> x.latest(0), 3);
        twin.changesNothing("latest(1)", lisp -> lisp.run("(add 1)"), x -> x.latest(1), 1);
    }

    /** "whether it failed or not" */
    private static void latestOfEachOutcome() {
        Lisp lisp = new Lisp(check);
        lisp.costs("(add (add 1) 2)", 6, 2, 3);
        lisp.failsAfter("(add (add z))", UNBOUND, 5, 2, 0);
        lisp.failsAfter("(add (5))", NOT_COMBINER, 4, 2, 0);
        lisp.failsAfter("(add (if))", BAD_OPERANDS, 4, 2, 0);
        lisp.failsAfter("(list (add 1000000000000000 1))", OVERFLOW, 6, 2, 2);
        lisp.push("(list (add 1))");
        lisp.leaveRoom(0);
        check.due("in the full heap", lisp.x.evaluate(), HEAP_FULL);
        check.due("latest(0)", lisp.x.latest(0), 5);
        check.due("latest(1)", lisp.x.latest(1), 2);
        lisp.x.reset();
        check.due("latest(0) after reset()", lisp.x.latest(0), 0);
        check.due("latest(1) after reset()", lisp.x.latest(1), 0);
    }

    private static void latestOfLatest() {
        Lisp lisp = new Lisp(check);
        lisp.costs("(list (list (list)))", 6, 3, 2);
        lisp.costs("5", 1, 0, 0);
        lisp.x.pushInteger(5);
        lisp.x.makePair();
        lisp.x.pushEnvironment();
        lisp.x.setLimit(7);
        check.due("other calls leave latest(0)", lisp.x.latest(0), 1);
        check.due("other calls leave latest(1)", lisp.x.latest(1), 0);
        lisp.x.drop(lisp.x.size());
        lisp.x.evaluate();
        check.due("a refused evaluate() leaves latest(0)", lisp.x.latest(0), 1);
    }
}
