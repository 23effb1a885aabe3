/**
 * An interpreter under test that takes expressions as texts. Names of ground symbols are those of
 * GROUND; a to z are the symbols 40 to 65; sN is symbol N; #t, #f and #inert are what they say;
 * #env is the present environment itself, and @name the value that the name has there.
 *
 * <p>Nothing is promised about an object after its 512th call, so a test takes a new one in time.
 */
final class Lisp {
    private static final String[] GROUND = {
        "if", "vau", "lambda", "define", "set", "begin", "quote", "scope", null, null,
        "add", "multiply", "subtract", "less", "same", "cons", "car", "cdr", "is-nil", "is-pair",
        "eval", "wrap", "unwrap", "environment", "apply", "list"
    };

    /** A text for each kind of value; what it pushes is of the kind that is its index. */
    static final String[] OF_KIND = {"5", "#t", "a", "()", "(1)", "@if", "@add", "#env", "#inert"};
    static final int NIL = 3;
    static final int PAIR = 4;
    static final int OPERATIVE = 5;
    static final int APPLICATIVE = 6;
    static final int ENVIRONMENT = 7;

    final ScopeInterpreter x = new ScopeInterpreter();
    private final Check check;
    private String[] tokens;
    private int next;

    Lisp(Check check) {
        this.check = check;
    }

    /** Pushes an expression, which stands on the value stack as one value then. */
    void push(String text) {
        String spaced = text.replace("(", " ( ").replace(")", " ) ").trim();
        tokens = spaced.split("\\s+");
        next = 0;
        int before = x.size();
        pushNext();
        if (next != tokens.length || x.size() != before + 1) {
            throw new IllegalStateException("the test's text can't be pushed: " + text);
        }
    }

    private void pushNext() {
        String token = tokens[next++];
        if (token.equals("(")) {
            pushElements();
        } else if (token.equals("#t") || token.equals("#f")) {
            x.pushBoolean(token.equals("#t"));
        } else if (token.equals("#inert")) {
            x.pushEmpty(true);
        } else if (token.equals("#env")) {
            x.pushEnvironment();
        } else if (token.startsWith("@")) {
            x.pushSymbol(symbol(token.substring(1)));
            x.evaluate();
        } else if (token.matches("-?[0-9]+")) {
            x.pushInteger(Long.parseLong(token));
        } else {
            x.pushSymbol(symbol(token));
        }
    }

    private void pushElements() {
        int count = 0;
        while (!tokens[next].equals(")") && !tokens[next].equals(".")) {
            pushNext();
            count++;
        }
        if (tokens[next].equals(".")) {
            next++;
            pushNext();
            for (int pair = 0; pair < count; pair++) {
                x.makePair();
            }
        } else {
            x.makeList(count);
        }
        next++;
    }

    static int symbol(String name) {
        for (int number = 0; number < GROUND.length; number++) {
            if (name.equals(GROUND[number])) {
                return number;
            }
        }
        if (name.matches("[a-z]")) {
            return 40 + name.charAt(0) - 'a';
        }
        if (name.matches("s[0-9]+")) {
            return Integer.parseInt(name.substring(1));
        }
        throw new IllegalStateException("no symbol has the name " + name);
    }

    /** Evaluates a text and leaves the result; returns what evaluate() answered. */
    int evaluate(String text) {
        push(text);
        return x.evaluate();
    }

    /** Evaluates what must succeed, and takes the result away. */
    void run(String text) {
        check.due(text + " succeeds", evaluate(text) > 0);
        x.drop(1);
    }

    void fails(String text, int error) {
        int before = x.size();
        check.due(text, evaluate(text), error);
        check.due(text + " pushes nothing", x.size(), before);
    }

    /** The text must give an integer, a boolean or a symbol with this number. */
    void gives(String text, int kind, long value) {
        check.due(text + " succeeds", evaluate(text) > 0);
        check.due(text + ": kind(0)", x.kind(0), kind);
        check.due(text + ": value(0)", x.value(0), value);
        x.drop(1);
    }

    void givesInteger(String text, long value) {
        gives(text, 0, value);
    }

    void givesBoolean(String text, boolean value) {
        gives(text, 1, value ? 1 : 0);
    }

    void givesKind(String text, int kind) {
        check.due(text + " succeeds", evaluate(text) > 0);
        check.due(text + ": kind(0)", x.kind(0), kind);
        x.drop(1);
    }

    /** The text must give a list of these integers (or symbols, by their numbers). */
    void givesList(String text, long... elements) {
        int before = x.size();
        check.due(text + " succeeds", evaluate(text) > 0);
        check.due(text + ": length(0)", x.length(0), elements.length);
        for (int index = 0; index < elements.length; index++) {
            x.pushPart(0, 0);
            check.due(text + ": element " + index, x.value(0), elements[index]);
            x.drop(1);
            x.pushPart(0, 1);
        }
        x.drop(x.size() - before);
    }

    /** Evaluates a text; then the numbers of steps, of frames and of new objects must be these. */
    void costs(String text, int steps, int frames, int objects) {
        push(text);
        int before = x.heapSize();
        check.due(text, x.evaluate(), steps);
        check.due(text + ": latest(0)", x.latest(0), steps);
        check.due(text + ": latest(1)", x.latest(1), frames);
        check.due(text + ": new objects", x.heapSize() - before, objects);
        x.drop(1);
    }

    /** As costs(), for an evaluation that must fail. */
    void failsAfter(String text, int error, int steps, int frames, int objects) {
        push(text);
        int before = x.heapSize();
        int size = x.size();
        check.due(text, x.evaluate(), error);
        check.due(text + " pushes nothing", x.size(), size - 1);
        check.due(text + ": latest(0)", x.latest(0), steps);
        check.due(text + ": latest(1)", x.latest(1), frames);
        check.due(text + ": new objects", x.heapSize() - before, objects);
    }

    /**
     * Fills the heap until there is room for this many objects; the value stack needs room for some
     * 15 values meanwhile. An operative that calls itself without end makes 8 objects in every two
     * steps, and the limit of steps says how often; so that some 60 calls are enough.
     */
    void leaveRoom(int objects) {
        int limit = x.setLimit(1000);
        x.pushEnvironment();
        evaluate("(environment (scope))");
        x.useEnvironment();
        run("(define z (vau (a b c d e f g) #inert (z 1 2 3 4 5 6 7)))");
        push("(z 1 2 3 4 5 6 7)");
        int rounds = (4000 - objects - x.heapSize()) / 8;
        x.setLimit(Math.max(2 * rounds, 1));
        x.evaluate();
        x.useEnvironment();
        int left = 4000 - objects - x.heapSize();
        if (rounds < 1 || left < 0 || left > 7) {
            throw new IllegalStateException("there is not so much room to fill");
        }
        for (int count = 0; count < left; count++) {
            x.pushEmpty(false);
        }
        x.makeList(left);
        x.drop(1);
        x.setLimit(limit);
    }

    /** Makes so many pairs that nobody holds. */
    void waste(int objects) {
        for (int count = 0; count < objects; count++) {
            x.pushEmpty(false);
        }
        x.makeList(objects);
        x.drop(1);
    }

    /** Puts the value on the stack into so many lists of one element: each is an operator's frame. */
    void nest(int lists) {
        for (int count = 0; count < lists; count++) {
            x.makeList(1);
        }
    }

    static void fillStack(ScopeInterpreter x) {
        for (int count = x.size(); count < 40; count++) {
            x.pushInteger(1);
        }
    }
}
