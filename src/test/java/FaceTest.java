import java.io.IOException;
import java.lang.reflect.Constructor;
import java.lang.reflect.Field;
import java.lang.reflect.Method;
import java.lang.reflect.Modifier;
import java.nio.file.Files;
import java.nio.file.Path;
import java.util.ArrayDeque;
import java.util.Deque;
import java.util.HashMap;
import java.util.HashSet;
import java.util.Map;
import java.util.Set;
import java.util.TreeSet;
import java.util.regex.Matcher;
import java.util.regex.Pattern;

/** The public face, and those rules of LANGUAGE.md that can be seen in the class or in its text. */
public final class FaceTest {
    private static final Set<String> FACE = Set.of(
        "boolean token(int,int)", "int wipe()", "int compile()", "int place()", "int info(int)", "int run(int)", "int sort()",
        "long number()", "int steps()", "long host(int,int)", "int generator(int)", "int waits(int)");
    private static final Set<String> WORDS_WITH_BRACKETS = Set.of("if", "for", "while", "switch", "return");
    private static final Pattern METHOD = Pattern.compile("(?m)^    (?:public|private) (?:\\w+ )?(\\w+)\\(([^)]*)\\) \\{$");
    private static final Pattern CALL = Pattern.compile("\\b([a-z]\\w*)\\(");

    public static void main(String[] args) throws IOException {
        constants();
        methods();
        fields();
        String text = Files.readString(Path.of("src/main/java/ScriptBench.java"));
        String code = text.replaceAll("(?s)/\\*.*?\\*/", "").replaceAll("//[^\n]*", "");
        words(code);
        loops(code);
        callsInArguments(code);
        Map<String, String> bodies = bodies(code);
        for (Map.Entry<String, String> body : bodies.entrySet()) {
            Checks.due("lines of " + body.getKey() + " are at most 60", body.getValue().lines().count() <= 60, true);
        }
        for (String name : bodies.keySet()) {
            int depth = depth(name, bodies, new HashSet<>());
            Checks.due("calls from " + name + " go at most six deep, not " + depth, depth <= 6, true);
        }
        Checks.end();
    }

    private static void constants() {
        Checks.due("OK", ScriptBench.OK, 0);
        Checks.due("SHAPE", ScriptBench.SHAPE, 1);
        Checks.due("UNBOUND", ScriptBench.UNBOUND, 2);
        Checks.due("OUTSIDE", ScriptBench.OUTSIDE, 3);
        Checks.due("VALUE", ScriptBench.VALUE, 0);
        Checks.due("THROWN", ScriptBench.THROWN, 1);
        Checks.due("LONG", ScriptBench.LONG, 2);
        Checks.due("BAD", ScriptBench.BAD, -1);
    }

    private static void methods() {
        Set<String> found = new TreeSet<>();
        Set<String> names = new HashSet<>();
        for (Method method : ScriptBench.class.getDeclaredMethods()) {
            StringBuilder types = new StringBuilder();
            for (Class<?> type : method.getParameterTypes()) {
                types.append(types.length() == 0 ? "" : ",").append(type.getName());
            }
            if (Modifier.isPublic(method.getModifiers())) {
                found.add(method.getReturnType().getName() + " " + method.getName() + "(" + types + ")");
            } else {
                Checks.due(method + " is private", Modifier.isPrivate(method.getModifiers()), true);
            }
            Checks.due("the name " + method.getName() + " is used once", names.add(method.getName()), true);
            Checks.due(method + " takes at most seven", method.getParameterCount() <= 7, true);
            Checks.due(method + " answers no array", method.getReturnType().isPrimitive(), true);
        }
        Checks.due("the public methods " + found, found.equals(FACE), true);
        Constructor<?>[] constructors = ScriptBench.class.getDeclaredConstructors();
        Checks.due("constructors", constructors.length, 1);
        Checks.due("the constructor is public", Modifier.isPublic(constructors[0].getModifiers()), true);
        Checks.due("the constructor takes nothing", constructors[0].getParameterCount(), 0);
        Checks.due("the class is public and final", ScriptBench.class.getModifiers(), Modifier.PUBLIC | Modifier.FINAL);
        Checks.due("no class in the class", ScriptBench.class.getDeclaredClasses().length, 0);
    }

    private static void fields() {
        int publicFields = 0;
        int ownFields = 0;
        for (Field field : ScriptBench.class.getDeclaredFields()) {
            int modifiers = field.getModifiers();
            Class<?> type = field.getType();
            if (Modifier.isStatic(modifiers)) {
                Checks.due(field + " is a constant", Modifier.isFinal(modifiers) && (type == int.class || type == long.class), true);
            } else {
                ownFields++;
                Class<?> base = type.isArray() ? type.getComponentType() : type;
                Checks.due(field + " is of a type that is left", base.isPrimitive() && base != float.class && base != double.class, true);
            }
            if (Modifier.isPublic(modifiers)) {
                publicFields++;
            } else {
                Checks.due(field + " is private", Modifier.isPrivate(modifiers), true);
            }
        }
        Checks.due("public fields", publicFields, 8);
        Checks.due("some forty fields, not " + ownFields, ownFields <= 42, true);
    }

    private static void words(String code) {
        String[] forbidden = {"import", "package", "throw", "throws", "try", "catch", "finally", "synchronized", "assert",
            "instanceof", "null", "float", "double", "String", "Math", "Integer", "Long", "System", "Arrays", "Object", "this",
            "super", "var", "enum", "record", "interface", "extends", "implements", "protected", "volatile", "native"};
        for (String word : forbidden) {
            Checks.due("the word " + word, Pattern.compile("\\b" + word + "\\b").matcher(code).find(), false);
        }
        String[] signs = {"->", "::", "\"", "[][]", "@"};
        for (String sign : signs) {
            Checks.due("the sign " + sign, code.contains(sign), false);
        }
        Matcher made = Pattern.compile("\\bnew\\b").matcher(code);
        while (made.find()) {
            int start = code.lastIndexOf('\n', made.start()) + 1;
            String line = code.substring(start, code.indexOf('\n', start));
            boolean inField = line.matches(" {4}private final \\w+\\[\\] \\w+ = new \\w+\\[[A-Z_0-9]+\\];");
            Checks.due("made in a field's initialiser: " + line.trim(), inField, true);
        }
    }

    /** Rule 8: each loop counts towards a bound in its own first line. */
    private static void loops(String code) {
        Checks.due("a loop with while or do", Pattern.compile("\\b(while|do)\\b").matcher(code).find(), false);
        Pattern counted = Pattern.compile("for \\(int (\\w+) = [^;]+; \\1 (?:<|>=) \\w+(?:\\[\\w+\\])?(?: && [^;|]+)?; \\1(?:\\+\\+|--)\\) \\{");
        Matcher loop = Pattern.compile("\\bfor\\b[^\n]*").matcher(code);
        while (loop.find()) {
            Checks.due("counts towards a bound: " + loop.group(), counted.matcher(loop.group()).matches(), true);
        }
    }

    /** For each open bracket, whether it is that of a call; a call inside of one is against rule 10. */
    private static void callsInArguments(String code) {
        String inMethods = METHOD.matcher(code).replaceAll("");
        Deque<Boolean> open = new ArrayDeque<>();
        int line = 1;
        for (int i = 0; i < inMethods.length(); i++) {
            char c = inMethods.charAt(i);
            if (c == '\n') {
                line++;
            } else if (c == '(') {
                int start = i;
                while (start > 0 && Character.isJavaIdentifierPart(inMethods.charAt(start - 1))) {
                    start--;
                }
                String word = inMethods.substring(start, i);
                boolean call = !word.isEmpty() && !WORDS_WITH_BRACKETS.contains(word);
                Checks.due("a call of " + word + " inside another's arguments, line " + line, call && open.contains(true), false);
                open.push(call);
            } else if (c == ')') {
                open.pop();
            }
        }
    }

    private static Map<String, String> bodies(String code) {
        Map<String, String> bodies = new HashMap<>();
        Matcher method = METHOD.matcher(code);
        while (method.find()) {
            bodies.put(method.group(1), code.substring(method.end(), code.indexOf("\n    }\n", method.end())));
        }
        return bodies;
    }

    private static int depth(String name, Map<String, String> bodies, Set<String> above) {
        Checks.due("recursion of " + name, above.add(name), true);
        int deepest = 0;
        Matcher call = CALL.matcher(bodies.get(name));
        while (call.find()) {
            String callee = call.group(1);
            if (bodies.containsKey(callee) && !above.contains(callee)) {
                deepest = Math.max(deepest, depth(callee, bodies, above));
            } else {
                Checks.due("recursion of " + callee, above.contains(callee), false);
            }
        }
        above.remove(name);
        return deepest + 1;
    }
}
