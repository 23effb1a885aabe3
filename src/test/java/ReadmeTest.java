import java.io.IOException;
import java.lang.reflect.Method;
import java.lang.reflect.Modifier;
import java.nio.file.Files;
import java.nio.file.Path;
import java.util.Set;
import java.util.TreeSet;
import java.util.regex.Matcher;
import java.util.regex.Pattern;
import java.util.stream.Stream;

/** What README.md says holds: its examples' answers, the calls and the tests that it names. */
public final class ReadmeTest {
    private static final Pattern EXAMPLE = Pattern.compile("(?s)```java\n(.*?)```");
    private static final Pattern CALL = Pattern.compile("x\\.(\\w+)\\(([^)]*)\\);\\s+// (-?\\d+)(:.*)?");
    private static final String BEGINNING = "ScopeInterpreter x = new ScopeInterpreter();";
    private static final Check check = new Check();

    public static void main(String[] args) throws IOException, ReflectiveOperationException {
        String text = Files.readString(Path.of("README.md"));
        examples(text);
        calls(text);
        tests(text);
        check.due("the tests' command is there", Files.isExecutable(Path.of(".ci", "run")));
        check.finish();
    }

    private static void examples(String text) throws ReflectiveOperationException {
        Matcher found = EXAMPLE.matcher(text);
        int examples = 0;
        while (found.find()) {
            examples++;
            example(found.group(1));
        }
        check.due("examples", examples, 2);
    }

    private static void example(String code) throws ReflectiveOperationException {
        String[] lines = code.split("\n");
        check.due("the example begins with a new object", lines[0].equals(BEGINNING));
        ScopeInterpreter x = new ScopeInterpreter();
        for (int index = 1; index < lines.length; index++) {
            Matcher call = CALL.matcher(lines[index]);
            check.due("a call and its answer: " + lines[index], call.matches());
            if (call.matches()) {
                check.due(lines[index], ask(x, call.group(1), call.group(2)), Long.parseLong(call.group(3)));
            }
        }
    }

    private static long ask(ScopeInterpreter x, String name, String texts) throws ReflectiveOperationException {
        String[] given = texts.isEmpty() ? new String[0] : texts.split(", ");
        Method method = methodOf(name, given.length);
        Object[] arguments = new Object[given.length];
        for (int index = 0; index < given.length; index++) {
            arguments[index] = read(given[index], method.getParameterTypes()[index]);
        }
        return ((Number) method.invoke(x, arguments)).longValue();
    }

    private static Method methodOf(String name, int parameters) {
        for (Method method : ScopeInterpreter.class.getMethods()) {
            if (method.getName().equals(name) && method.getParameterCount() == parameters) {
                return method;
            }
        }
        throw new IllegalStateException("README.md calls what is not there: " + name);
    }

    private static Object read(String text, Class<?> type) {
        if (type == boolean.class) {
            return Boolean.valueOf(text);
        }
        if (type == long.class) {
            return Long.valueOf(text);
        }
        return Integer.valueOf(text);
    }

    /** The names in the first column of all tables with this heading. */
    private static Set<String> namesUnder(String text, String heading) {
        Set<String> names = new TreeSet<>();
        Matcher table = Pattern.compile("\\| " + heading + " \\|[^\n]*\n((\\|[^\n]*\n)*)").matcher(text);
        while (table.find()) {
            for (String row : table.group(1).split("\n")) {
                Matcher name = Pattern.compile("`(\\w+)`").matcher(row.split("\\|")[1]);
                while (name.find()) {
                    check.due(name.group(1) + " is named once", names.add(name.group(1)));
                }
            }
        }
        return names;
    }

    private static void calls(String text) {
        Set<String> due = new TreeSet<>();
        for (Method method : ScopeInterpreter.class.getDeclaredMethods()) {
            if (Modifier.isPublic(method.getModifiers())) {
                due.add(method.getName());
            }
        }
        check.same("the calls in README.md", namesUnder(text, "calls").toString(), due.toString());
    }

    private static void tests(String text) throws IOException {
        Set<String> due = new TreeSet<>();
        try (Stream<Path> files = Files.list(Path.of("src", "test", "java"))) {
            files.map(file -> file.getFileName().toString()).filter(name -> name.endsWith("Test.java"))
                    .forEach(name -> due.add(name.replace(".java", "")));
        }
        check.same("the tests in README.md", namesUnder(text, "test").toString(), due.toString());
    }
}
