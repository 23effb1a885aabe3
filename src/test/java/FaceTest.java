import java.lang.reflect.Constructor;
import java.lang.reflect.Field;
import java.lang.reflect.Method;
import java.lang.reflect.Modifier;
import java.util.Arrays;
import java.util.Set;
import java.util.TreeSet;

/** The public face: the constants, the constructor and the methods, and nothing more. */
public final class FaceTest {
    private static final Check check = new Check();
    private static final String[] CONSTANTS = {
        "BAD_VALUE", "TOO_FEW", "STACK_FULL", "WRONG_KIND", "HEAP_FULL", "UNBOUND", "NOT_COMBINER",
        "BAD_OPERANDS", "OVERFLOW", "STEP_LIMIT", "DEPTH_LIMIT", "NONE"
    };
    private static final String[] METHODS = {
        "int pushInteger(long)", "int pushBoolean(boolean)", "int pushSymbol(int)",
        "int pushEmpty(boolean)", "int pushEnvironment()", "int pushCopy(int)",
        "int pushPart(int,int)", "int pushBinding(int,int)", "int makePair()", "int makeList(int)",
        "int drop(int)", "int reset()", "int size()", "int kind(int)", "long value(int)",
        "int areSame(int,int)", "int length(int)", "int bindingCount(int)", "int evaluate()",
        "int useEnvironment()", "int useUser()", "int setLimit(int)", "int latest(int)",
        "int heapSize()"
    };

    public static void main(String[] args) throws ReflectiveOperationException {
        constants();
        methods();
        membersOfNoOtherKind();
        check.finish();
    }

    private static void constants() throws ReflectiveOperationException {
        for (int index = 0; index < CONSTANTS.length; index++) {
            Field field = ScopeInterpreter.class.getField(CONSTANTS[index]);
            check.due(CONSTANTS[index] + " is an int", field.getType() == int.class);
            check.due(CONSTANTS[index], field.getInt(null), -1 - index);
        }
        check.due("NO_VALUE", ScopeInterpreter.NO_VALUE, Long.MIN_VALUE);
    }

    private static void methods() {
        Set<String> due = new TreeSet<>(Arrays.asList(METHODS));
        Set<String> found = new TreeSet<>();
        for (Method method : ScopeInterpreter.class.getDeclaredMethods()) {
            if (!Modifier.isPrivate(method.getModifiers())) {
                found.add(describe(method));
                check.due(method.getName() + " is public", Modifier.isPublic(method.getModifiers()));
                check.due(method.getName() + " is not static", !Modifier.isStatic(method.getModifiers()));
            }
        }
        check.due("the methods are " + found, found.equals(due));
    }

    private static String describe(Method method) {
        StringBuilder text = new StringBuilder();
        for (Class<?> type : method.getParameterTypes()) {
            text.append(text.length() == 0 ? "" : ",").append(type.getName());
        }
        return method.getReturnType().getName() + " " + method.getName() + "(" + text + ")";
    }

    private static void membersOfNoOtherKind() {
        int modifiers = ScopeInterpreter.class.getModifiers();
        check.due("the class is public", Modifier.isPublic(modifiers));
        check.due("the class is final", Modifier.isFinal(modifiers));
        Constructor<?>[] constructors = ScopeInterpreter.class.getDeclaredConstructors();
        check.due("constructors", constructors.length, 1);
        check.due("the constructor is public", Modifier.isPublic(constructors[0].getModifiers()));
        check.due("the constructor's parameters", constructors[0].getParameterCount(), 0);
        int visible = 0;
        for (Field field : ScopeInterpreter.class.getDeclaredFields()) {
            visible += Modifier.isPrivate(field.getModifiers()) ? 0 : 1;
            boolean isFinal = Modifier.isFinal(field.getModifiers());
            check.due(field.getName() + " is no changing static field",
                    isFinal || !Modifier.isStatic(field.getModifiers()));
        }
        check.due("visible fields", visible, CONSTANTS.length + 1);
    }
}
