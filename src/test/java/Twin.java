/** Compares an object with a twin, on which something else has been done. */
final class Twin {
    /** The calls that bring a new object where the test begins. */
    interface Setup {
        void build(Lisp lisp);
    }

    interface Call {
        long ask(ScopeInterpreter x);
    }

    private final Check check;

    Twin(Check check) {
        this.check = check;
    }

    private Lisp built(Setup setup) {
        Lisp lisp = new Lisp(check);
        setup.build(lisp);
        return lisp;
    }

    /** The call must answer this, and leave the object as its twin is that was not asked. */
    void changesNothing(String name, Setup setup, Call call, long want) {
        Lisp asked = built(setup);
        Lisp other = built(setup);
        check.due(name, call.ask(asked.x), want);
        check.same(name + " changes nothing", State.of(asked.x), State.of(other.x));
    }

    /** As changesNothing(), for several texts: the setup pushes the text's value last. */
    void changesNothing(String name, String[] texts, Call call, long want) {
        for (String text : texts) {
            changesNothing(name + " of " + text, lisp -> lisp.push(text), call, want);
        }
    }

    void leadToTheSame(String name, Setup one, Setup other) {
        check.same(name, State.of(built(one).x), State.of(built(other).x));
    }

    /** As leadToTheSame(), but that the evaluations and the number of objects may differ. */
    void leaveTheSame(String name, Setup one, Setup other) {
        check.same(name, State.ofValues(built(one).x), State.ofValues(built(other).x));
    }

    /**
     * The evaluation of a text must fail after so many steps and frames, and leave the object as
     * its twin is that dropped the text, but for objects that nobody holds.
     */
    void fails(Setup setup, String text, int error, int steps, int frames, int objects) {
        Lisp asked = built(setup);
        asked.failsAfter(text, error, steps, frames, objects);
        Lisp other = built(setup);
        other.push(text);
        other.x.drop(1);
        check.same(text + " leaves nothing", State.ofValues(asked.x), State.ofValues(other.x));
    }

    void fails(String text, int error, int steps, int frames, int objects) {
        fails(lisp -> lisp.x.pushInteger(77), text, error, steps, frames, objects);
    }
}
