import java.lang.reflect.Array;
import java.lang.reflect.Constructor;
import java.lang.reflect.Field;
import java.lang.reflect.Method;
import java.lang.reflect.Modifier;
import java.nio.file.Files;
import java.nio.file.Path;
import java.util.ArrayList;
import java.util.List;
import java.util.Map;
import java.util.Set;
import java.util.TreeMap;
import java.util.regex.Matcher;
import java.util.regex.Pattern;

/** The rules of LANGUAGE.md that can be seen in the text and the fields of the class; FaceTest has rule 1. */
public final class LanguageTest {
    private static final Set<String> IMPORTS = Set.of("java.util.Arrays", "java.util.ArrayList", "java.util.List");
    private static final Set<String> LIBRARY = Set.of("Arrays.fill", "Arrays.copyOf", "Arrays.copyOfRange",
        "System.arraycopy", "Math.max", "Math.min", "Integer.bitCount", "Long.bitCount");

    /** Rule 6 lets the document name another one: fact's is the only throw that it asks for. */
    private static final String THROW = "throw new ArrayIndexOutOfBoundsException(\"\")";
    private static final Set<String> CONSTANTS = Set.of("int", "long", "boolean", "char", "java.lang.String");
    private static final int MOST_ELEMENTS = 13_000;
    private static final int MOST_DEPTH = 8;

    /** A method begins with its modifiers and ends with a brace as far in as these. */
    private static final Pattern METHOD = Pattern.compile(
        "(?m)^( +)(?:public|private)[^;={}]*\\b(\\w+)\\([^;={}]*\\{\n(?s:(.*?))^\\1\\}");
    private static final Pattern CALL = Pattern.compile("(?<!Arrays\\.)\\b(\\w+)\\(");
    private static final Due due = new Due();

    public static void main(String[] args) throws Exception {
        String whole = Files.readString(Path.of("src/main/java/ElCompletion.java"));
        String code = whole.replaceAll("(?s)/\\*.*?\\*/", "").replaceAll("//[^\n]*", "")
            .replaceAll("\"[^\"\n]*\"", "\"\"");
        words(code);
        library(code);
        exceptions(code);
        due.sentence("LANGUAGE.md, 3: Texts hold characters 0 to 255 alone");
        due.is("other characters", whole.chars().filter(c -> c > 255).count(), 0);
        methods(code);
        classes();
        arrays();
        due.end();
    }

    private static int count(String pattern, String code) {
        int found = 0;
        for (Matcher m = Pattern.compile(pattern).matcher(code); m.find(); ) {
            found++;
        }
        return found;
    }

    private static void words(String code) {
        due.sentence("LANGUAGE.md, 2, 5, 6, 9, 13: what is ruled out");
        for (String word : List.of("package", "finally", "synchronized", "assert", "volatile", "transient",
            "native", "instanceof", "Object", "Thread", "Random", "hashCode", "toString", "equals")) {
            due.is(word, count("\\b" + word + "\\b", code), 0);
        }
        for (String sign : List.of("->", "::", "\\w+Exact\\(", "while \\(true\\)", "for \\(;", ";;",
            "static \\{", "\\bnanoTime\\b", "\\bcurrentTimeMillis\\b", "\\bgetenv\\b")) {
            due.is(sign, count(sign, code), 0);
        }
    }

    private static void library(String code) {
        due.sentence("LANGUAGE.md, 4: The library: only what stands here");
        List<String> own = new ArrayList<>(List.of("ElCompletion"));
        for (Class<?> inside : ElCompletion.class.getDeclaredClasses()) {
            own.add(inside.getSimpleName());
        }
        for (Matcher m = Pattern.compile("import ([^;]+);").matcher(code); m.find(); ) {
            due.is("import of " + m.group(1), IMPORTS.contains(m.group(1)) ? 1 : 0, 1);
        }
        String body = code.replaceAll("import [^;]+;", "");
        for (Matcher m = Pattern.compile("\\b([A-Z][a-z]\\w*)\\.(\\w+)").matcher(body); m.find(); ) {
            due.is(m.group(), own.contains(m.group(1)) || LIBRARY.contains(m.group()) ? 1 : 0, 1);
        }
    }

    private static void exceptions(String code) {
        due.sentence("LANGUAGE.md, 6: throws exactly what and where the document says");
        due.is("throw statements", count("\\bthrow\\b", code), 1);
        int at = code.indexOf(THROW);
        due.is("the one of fact", at > code.indexOf("public int fact(int i)") && at < code.indexOf("public int told(") ? 1 : 0, 1);
        due.is("try or catch", count("\\b(try|catch)\\b", code), 0);
    }

    private static void methods(String code) {
        due.sentence("LANGUAGE.md, 11: Methods stay short (some sixty lines)");
        Map<String, String> bodies = new TreeMap<>();
        for (Matcher m = METHOD.matcher(code); m.find(); ) {
            int lines = count("\n", m.group(3));
            due.is("lines of " + m.group(2) + ": " + lines, lines <= 60 ? 1 : 0, 1);
            due.is("methods of the name " + m.group(2), bodies.put(m.group(2), m.group(3)) == null ? 1 : 2, 1);
        }
        due.sentence("LANGUAGE.md, 11: calls that are no recursion go at most eight deep");
        for (String name : bodies.keySet()) {
            int depth = depth(name, bodies, 1);
            due.is("depth of " + name + ": " + depth, depth <= MOST_DEPTH ? 1 : 0, 1);
        }
    }

    /** A call is a name of one of these methods; a recursion shows as a depth beyond the most. */
    private static int depth(String name, Map<String, String> bodies, int level) {
        int deepest = level;
        for (Matcher m = CALL.matcher(bodies.get(name)); m.find() && level <= MOST_DEPTH; ) {
            if (bodies.containsKey(m.group(1))) {
                deepest = Math.max(deepest, depth(m.group(1), bodies, level + 1));
            }
        }
        return deepest;
    }

    private static List<Class<?>> allClasses() {
        List<Class<?>> all = new ArrayList<>(List.of(ElCompletion.class.getDeclaredClasses()));
        all.add(ElCompletion.class);
        return all;
    }

    private static void classes() {
        due.sentence("LANGUAGE.md, 5: Static fields are final: constants");
        for (Class<?> where : allClasses()) {
            for (Field f : where.getDeclaredFields()) {
                if (Modifier.isStatic(f.getModifiers())) {
                    due.is(f + " is final", Modifier.isFinal(f.getModifiers()) ? 1 : 0, 1);
                    due.is(f + " is a constant", CONSTANTS.contains(f.getType().getName()) ? 1 : 0, 1);
                }
            }
        }
        due.sentence("LANGUAGE.md, 11: seven parameters, twelve classes, twenty fields");
        due.is("at most twelve classes", allClasses().size() <= 12 ? 1 : 0, 1);
        for (Class<?> where : allClasses()) {
            int fields = 0;
            for (Field f : where.getDeclaredFields()) {
                fields += Modifier.isStatic(f.getModifiers()) ? 0 : 1;
            }
            due.is(where + " has at most twenty fields", fields <= 20 ? 1 : 0, 1);
            for (Method m : where.getDeclaredMethods()) {
                due.is(m + " takes at most seven", m.getParameterCount() <= 7 ? 1 : 0, 1);
            }
            for (Constructor<?> c : where.getDeclaredConstructors()) {
                due.is(c + " takes at most seven", c.getParameterCount() <= 7 ? 1 : 0, 1);
            }
        }
    }

    private static void arrays() throws ReflectiveOperationException {
        due.sentence("LANGUAGE.md, 12: What a run makes is counted: keep it small");
        ElCompletion x = new ElCompletion();
        List<Object> first = arraysOf(x);
        int elements = 0;
        for (Object array : first) {
            elements += Array.getLength(array);
        }
        due.is("elements of a new object: " + elements, elements <= MOST_ELEMENTS ? 1 : 0, 1);
        useAll(x);
        List<Object> later = arraysOf(x);
        due.is("arrays", later.size(), first.size());
        for (int i = 0; i < first.size() && i < later.size(); i++) {
            due.is("array " + i + " is still the first one", later.get(i) == first.get(i) ? 1 : 0, 1);
        }
    }

    private static List<Object> arraysOf(Object object) throws ReflectiveOperationException {
        List<Object> arrays = new ArrayList<>();
        for (Field f : object.getClass().getDeclaredFields()) {
            if (Modifier.isStatic(f.getModifiers()) || f.getType().isPrimitive()) {
                continue;
            }
            f.setAccessible(true);
            Object inside = f.get(object);
            if (f.getType().isArray()) {
                arrays.add(inside);
            } else {
                arrays.addAll(arraysOf(inside));
            }
        }
        return arrays;
    }

    private static void useAll(ElCompletion x) {
        for (int i = 0; i < 20; i++) {
            int a = x.grow();
            x.axiom(1, a, 0, 0);
            x.axiom(3, a, 1, a - 1);
            x.axiom(6, 1, 1, 1);
            x.sub(a, 0);
            x.link(a, 1, 0);
            x.fact(x.facts() - 1);
            x.told(24 * a, x.rounds());
            x.trace(x.fact(0));
            x.row(0);
            x.empty(a);
            x.same(a);
            x.parent(a, 0);
            x.drop(0);
        }
    }
}
