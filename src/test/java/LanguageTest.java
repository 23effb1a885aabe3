import java.io.IOException;
import java.lang.reflect.Field;
import java.lang.reflect.Method;
import java.lang.reflect.Modifier;
import java.nio.file.Files;
import java.nio.file.Path;
import java.util.ArrayList;
import java.util.List;
import java.util.Map;
import java.util.Set;
import java.util.TreeMap;
import java.util.TreeSet;
import java.util.regex.Matcher;
import java.util.regex.Pattern;

/** The rules of ../shared/LANGUAGE.md that a look at the source or at the class can tell. */
public final class LanguageTest {
    private static final Path SOURCE = Path.of("src", "main", "java", "ScopeInterpreter.java");
    private static final Check check = new Check();

    public static void main(String[] args) throws IOException {
        String source = withoutCommentsAndTexts(Files.readString(SOURCE));
        words(source);
        imports(source);
        lambdas(source);
        library(source);
        List<Class<?>> all = new ArrayList<>();
        collect(ScopeInterpreter.class, all);
        for (Class<?> one : all) {
            nesting(one);
            fields(one);
            methods(one);
        }
        check.due(all.size() + " classes are few", all.size() <= 12);
        privateNames();
        calls(bodies(source));
        check.finish();
    }

    private static String withoutCommentsAndTexts(String source) {
        return source.replaceAll("(?s)/\\*.*?\\*/", " ").replaceAll("//[^\n]*", " ")
                .replaceAll("\"(\\\\.|[^\"\\\\])*\"", "\"\"");
    }

    private static boolean contains(String source, String pattern) {
        return Pattern.compile(pattern).matcher(source).find();
    }

    /** Rule 6, and the line before rule 1. */
    private static void words(String source) {
        String[] forbidden = {
            "throw", "throws", "try", "catch", "finally", "synchronized", "assert", "package", "native", "volatile"
        };
        for (String word : forbidden) {
            check.due("the word " + word + " does not occur", !contains(source, "\\b" + word + "\\b"));
        }
    }

    private static void imports(String source) {
        Set<String> allowed = Set.of("java.util.ArrayList", "java.util.List", "java.util.Arrays", "java.util.Iterator");
        Matcher found = Pattern.compile("\\bimport\\s+([^;]+);").matcher(source);
        while (found.find()) {
            check.due("import " + found.group(1) + " is allowed", allowed.contains(found.group(1).trim()));
        }
    }

    /** Rule 2: arrows stand in switches alone. */
    private static void lambdas(String source) {
        check.due("no method reference", !source.contains("::"));
        for (String line : source.split("\n")) {
            check.due("no lambda in " + line.trim(), !line.contains("->") || contains(line, "\\b(case|default)\\b"));
        }
        check.due("no static initialiser", !contains(source, "\\bstatic\\s*\\{"));
    }

    /** Rules 4 and 13. */
    private static void library(String source) {
        String[] forbidden = {
            "\\bSystem\\.(?!arraycopy\\b)", "\\bMath\\.(random|sqrt|pow|sin|cos|exp|log)\\b", "Exact\\s*\\(",
            "\\bThread\\b", "\\bRandom\\b", "\\bRuntime\\b", "\\bClass\\b", "\\bString\\.", "\\bjava\\.(?!util\\.)",
            "\\bhashCode\\b", "\\btoString\\b(?!\\(\\))", "\\bHashMap\\b"
        };
        for (String pattern : forbidden) {
            check.due(pattern + " does not occur", !contains(source, pattern));
        }
    }

    private static void collect(Class<?> from, List<Class<?>> all) {
        all.add(from);
        for (Class<?> inner : from.getDeclaredClasses()) {
            collect(inner, all);
        }
    }

    /** Rules 1 and 2. */
    private static void nesting(Class<?> one) {
        if (one != ScopeInterpreter.class) {
            int modifiers = one.getModifiers();
            check.due(one + " is static", Modifier.isStatic(modifiers));
            check.due(one + " is no part of the face", !Modifier.isPublic(modifiers) && !Modifier.isProtected(modifiers));
        }
    }

    /** Rules 3, 5 and 11. */
    private static void fields(Class<?> one) {
        int count = 0;
        for (Field field : one.getDeclaredFields()) {
            boolean isStatic = Modifier.isStatic(field.getModifiers());
            check.due(field + " is final", !isStatic || Modifier.isFinal(field.getModifiers()));
            check.due(field + " has a type that is allowed", isAllowed(field.getType()));
            count += isStatic ? 0 : 1;
        }
        check.due(one + " has few fields", count <= 22);
    }

    private static boolean isAllowed(Class<?> type) {
        if (type.isArray()) {
            Class<?> element = type.getComponentType();
            boolean isRowOfNumbers = element.isArray() && element.getComponentType().isPrimitive();
            return isRowOfNumbers || !element.isArray() && isAllowed(element);
        }
        boolean isOwn = type.getName().startsWith("ScopeInterpreter$");
        Set<Class<?>> others = Set.of(String.class, StringBuilder.class, ArrayList.class, List.class, Integer.class);
        return type.isPrimitive() || isOwn || others.contains(type);
    }

    /** Rules 6 and 11. */
    private static void methods(Class<?> one) {
        for (Method method : one.getDeclaredMethods()) {
            check.due(method + " has few parameters", method.getParameterCount() <= 7);
            boolean isOfObject = Set.of("equals", "hashCode", "toString", "finalize").contains(method.getName());
            check.due(method + " is no method of Object", !isOfObject || one.isRecord() || one.isEnum());
        }
    }

    /** Rule 1: "No private method bears the name of a public one." */
    private static void privateNames() {
        Set<String> names = new TreeSet<>();
        for (Method method : ScopeInterpreter.class.getDeclaredMethods()) {
            if (Modifier.isPublic(method.getModifiers())) {
                names.add(method.getName());
            }
        }
        for (Method method : ScopeInterpreter.class.getDeclaredMethods()) {
            boolean isPrivate = Modifier.isPrivate(method.getModifiers());
            check.due(method + " has a name of its own", !isPrivate || !names.contains(method.getName()));
        }
    }

    /**
     * The text of each method and constructor by its name. Two of one name are not allowed, though the
     * rules have nothing against them, so that a name tells what is called.
     */
    private static Map<String, String> bodies(String source) {
        Map<String, String> bodies = new TreeMap<>();
        String head = "\\n( {4}| {8})(?:(?:public|private|static|final) )*(?:[\\w\\[\\]]+ )?(\\w+)\\([^)]*\\) \\{\\n";
        Matcher found = Pattern.compile("(?s)" + head + "(.*?)\\n\\1\\}").matcher(source);
        while (found.find()) {
            String name = found.group(2);
            check.due(name + " is the name of one method", bodies.put(name, found.group(3)) == null);
            check.due(name + " is short", found.group(3).split("\n").length <= 60);
        }
        for (Method method : ScopeInterpreter.class.getDeclaredMethods()) {
            check.due(method + " is found in the source", bodies.containsKey(method.getName()));
        }
        return bodies;
    }

    /** Rules 8 and 11: no recursion, and no calls more than eight deep. */
    private static void calls(Map<String, String> bodies) {
        Map<String, Set<String>> called = new TreeMap<>();
        for (Map.Entry<String, String> body : bodies.entrySet()) {
            Set<String> names = new TreeSet<>();
            Matcher found = Pattern.compile("\\b(\\w+)\\(").matcher(body.getValue());
            while (found.find()) {
                if (bodies.containsKey(found.group(1))) {
                    names.add(found.group(1));
                }
            }
            called.put(body.getKey(), names);
        }
        for (String name : called.keySet()) {
            check.due(name + " calls at most eight deep", isShallow(name, called, 8));
        }
    }

    private static boolean isShallow(String name, Map<String, Set<String>> called, int levels) {
        if (levels == 0) {
            return false;
        }
        for (String next : called.get(name)) {
            if (!isShallow(next, called, levels - 1)) {
                return false;
            }
        }
        return true;
    }
}
