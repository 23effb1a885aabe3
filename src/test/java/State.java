/**
 * All that an object answers, as a text: two objects in the same state have the same text. The
 * object is used up by it: the calls that tell its limit and its environments change them.
 */
final class State {
    /** With the calls that made the object, it stays within the 512 that are promised. */
    private static final int MOST_CALLS = 260;
    private static final int ROOM_TO_WALK = 33;
    private static final int LEVELS = 4;

    private final ScopeInterpreter x;
    private final StringBuilder text = new StringBuilder();
    private int calls = 0;

    private State(ScopeInterpreter x) {
        this.x = x;
    }

    static String of(ScopeInterpreter x) {
        State state = new State(x);
        state.say("latest steps", x.latest(0));
        state.say("latest frames", x.latest(1));
        state.say("objects", x.heapSize());
        state.describe();
        return state.text.toString();
    }

    /** As of(), but without what latest() and heapSize() answer, which an evaluation changes. */
    static String ofValues(ScopeInterpreter x) {
        State state = new State(x);
        state.describe();
        return state.text.toString();
    }

    private void say(String what, long number) {
        calls++;
        text.append(what).append('=').append(number).append(' ');
    }

    private void describe() {
        int size = x.size();
        say("size", size);
        for (int depth = 0; depth < size && depth < 41; depth++) {
            say("kind", x.kind(depth));
            say("value", x.value(depth));
            say("same", x.areSame(depth, depth + 1));
        }
        int tooMany = Math.max(size - ROOM_TO_WALK, 0);
        say("drop", x.drop(tooMany));
        for (int depth = 0; depth < size - tooMany && depth < 6; depth++) {
            say("copy", x.pushCopy(depth));
            walk(LEVELS);
        }
        describePresent();
        say("change of environment", x.useUser());
        describePresent();
        say("limit", x.setLimit(1));
    }

    private void describePresent() {
        say("present", x.pushEnvironment());
        for (int depth = 1; depth < 4; depth++) {
            say("is it", x.areSame(0, depth));
        }
        int[] symbols = {40, 41, 42, 43, 10};
        for (int symbol : symbols) {
            int answer = x.pushBinding(0, symbol);
            say("binding", answer);
            if (answer > 0) {
                walk(1);
            }
        }
        walk(2);
    }

    /** Tells all of the uppermost value, and removes it. */
    private void walk(int levels) {
        int kind = x.kind(0);
        say("kind", kind);
        say("value", x.value(0));
        say("length", x.length(0));
        say("bindings", x.bindingCount(0));
        for (int part = 0; part < 2; part++) {
            if (calls < MOST_CALLS && levels > 0) {
                int answer = x.pushPart(0, part);
                say("part", answer);
                if (answer > 0) {
                    walk(levels - 1);
                }
            }
        }
        calls++;
        x.drop(1);
    }
}
