/**
 * An interpreter under test that takes expressions as texts. Names of ground symbols are those of
 * GROUND; a to z are the symbols 40 to 65; sN is symbol N; #t, #f and #inert are what they say.
 */
final class Lisp {
    private static final String[] GROUND = {
        "if", "vau", "lambda", "define", "set", "begin", "quote", "scope", null, null,
        "add", "multiply", "subtract", "less", "same", "cons", "car", "cdr", "is-nil", "is-pair",
        "eval", "wrap", "unwrap", "environment", "apply", "list"
    };

    final ScopeInterpreter x = new ScopeInterpreter();
    private final Check check;
    private String[] tokens;
    private int next;

    Lisp(Check check) {
        this.check = check;
    }

    /** Pushes an expression, which stands on the value stack as one value then. */
    void push(String text) {
        String spaced = text.replace("(", " ( ").replace(")", " ) ").trim();
        tokens = spaced.split("\\s+");
        next = 0;
        int before = x.size();
        pushNext();
        if (next != tokens.length || x.size() != before + 1) {
            throw new IllegalStateException("the test's text can't be pushed: " + text);
        }
    }

    private void pushNext() {
        String token = tokens[next++];
        if (token.equals("(")) {
            pushElements();
        } else if (token.equals("#t") || token.equals("#f")) {
            x.pushBoolean(token.equals("#t"));
        } else if (token.equals("#inert")) {
            x.pushEmpty(true);
        } else if (token.matches("-?[0-9]+")) {
            x.pushInteger(Long.parseLong(token));
        } else {
            x.pushSymbol(symbol(token));
        }
    }

    private void pushElements() {
        int count = 0;
        while (!tokens[next].equals(")") && !tokens[next].equals(".")) {
            pushNext();
            count++;
        }
        if (tokens[next].equals(".")) {
            next++;
            pushNext();
            for (int pair = 0; pair < count; pair++) {
                x.makePair();
            }
        } else {
            x.makeList(count);
        }
        next++;
    }

    static int symbol(String name) {
        for (int number = 0; number < GROUND.length; number++) {
            if (name.equals(GROUND[number])) {
                return number;
            }
        }
        if (name.matches("[a-z]")) {
            return 40 + name.charAt(0) - 'a';
        }
        if (name.matches("s[0-9]+")) {
            return Integer.parseInt(name.substring(1));
        }
        throw new IllegalStateException("no symbol has the name " + name);
    }

    /** Evaluates a text and leaves the result; returns what evaluate() answered. */
    int evaluate(String text) {
        push(text);
        return x.evaluate();
    }

    /** Evaluates what must succeed, and takes the result away. */
    void run(String text) {
        check.due(text + " succeeds", evaluate(text) > 0);
        x.drop(1);
    }

    void fails(String text, int error) {
        int before = x.size();
        check.due(text, evaluate(text), error);
        check.due(text + " pushes nothing", x.size(), before);
    }

    /** The text must give an integer, a boolean or a symbol with this number. */
    void gives(String text, int kind, long value) {
        check.due(text + " succeeds", evaluate(text) > 0);
        check.due(text + ": kind(0)", x.kind(0), kind);
        check.due(text + ": value(0)", x.value(0), value);
        x.drop(1);
    }

    void givesInteger(String text, long value) {
        gives(text, 0, value);
    }

    void givesBoolean(String text, boolean value) {
        gives(text, 1, value ? 1 : 0);
    }

    void givesKind(String text, int kind) {
        check.due(text + " succeeds", evaluate(text) > 0);
        check.due(text + ": kind(0)", x.kind(0), kind);
        x.drop(1);
    }

    /** The text must give a list of these integers (or symbols, by their numbers). */
    void givesList(String text, long... elements) {
        int before = x.size();
        check.due(text + " succeeds", evaluate(text) > 0);
        check.due(text + ": length(0)", x.length(0), elements.length);
        for (int index = 0; index < elements.length; index++) {
            x.pushPart(0, 0);
            check.due(text + ": element " + index, x.value(0), elements[index]);
            x.drop(1);
            x.pushPart(0, 1);
        }
        x.drop(x.size() - before);
    }

    /** Evaluates a text; then the numbers of steps, of frames and of new objects must be these. */
    void costs(String text, int steps, int frames, int objects) {
        push(text);
        int before = x.heapSize();
        check.due(text, x.evaluate(), steps);
        check.due(text + ": latest(0)", x.latest(0), steps);
        check.due(text + ": latest(1)", x.latest(1), frames);
        check.due(text + ": new objects", x.heapSize() - before, objects);
        x.drop(1);
    }

    /** As costs(), for an evaluation that must fail. */
    void failsAfter(String text, int error, int steps, int frames, int objects) {
        push(text);
        int before = x.heapSize();
        int size = x.size();
        check.due(text, x.evaluate(), error);
        check.due(text + " pushes nothing", x.size(), size - 1);
        check.due(text + ": latest(0)", x.latest(0), steps);
        check.due(text + ": latest(1)", x.latest(1), frames);
        check.due(text + ": new objects", x.heapSize() - before, objects);
    }

    /** Fills the heap until there is room for this many objects. */
    void leaveRoom(int objects) {
        for (int made = 0; made < 4000 && 4000 - x.heapSize() > objects; made++) {
            x.pushEmpty(false);
            x.pushEmpty(false);
            x.makePair();
            x.drop(1);
        }
    }

    static void fillStack(ScopeInterpreter x) {
        for (int count = x.size(); count < 40; count++) {
            x.pushInteger(1);
        }
    }
}
