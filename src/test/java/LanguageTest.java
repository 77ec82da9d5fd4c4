import java.io.IOException;
import java.lang.reflect.Constructor;
import java.lang.reflect.Executable;
import java.lang.reflect.Field;
import java.lang.reflect.Method;
import java.lang.reflect.Modifier;
import java.nio.file.Files;
import java.nio.file.Path;
import java.util.ArrayList;
import java.util.List;
import java.util.Map;
import java.util.Set;
import java.util.TreeMap;
import java.util.TreeSet;
import java.util.regex.Matcher;
import java.util.regex.Pattern;

/** The face of the document and those rules of LANGUAGE.md that can be seen from outside. */
public final class LanguageTest {
    private static final Path SOURCE = Path.of("src/main/java/PlankNine.java");
    private static final List<String> FACE = List.of(
        "int type(long, int)", "int clear()", "int marsh()", "int plank(int, int)", "int person(int, int)",
        "int errand(int, int)", "int way(int, int, int, int)", "int go(int, int, int)", "int steps(int, int)",
        "int days(int)", "int went(int, int)", "int frost()", "int cart(int)", "int exchange(int, int)",
        "int all(int)", "int often(int, int, int, int)", "int better(int, int, int, int)", "int spent(int, int)",
        "long tell(int)", "int rate(int, int)", "int keep(int)", "int back(int)", "int count(int)", "long trace()");
    private static final List<String> CONSTANTS = List.of("BAD", "STATE", "FULL", "NONE", "NO");
    private static final List<String> RULED_OUT = List.of(
        "\\bthrow\\b", "\\btry\\b", "\\bcatch\\b", "\\bfinally\\b", "\\bsynchronized\\b", "\\bassert\\b", "\\bimport\\b",
        "\\bpackage\\b", "->", "::", "\\bstatic\\s*\\{", "\\bObject\\b", "\\.equals\\(", "\\bhashCode\\b", "\\btoString\\b",
        "Exact\\b", "\\bprotected\\b", "\\bvar\\b", "Integer\\.", "Long\\.", "\\bwhile\\s*\\(true\\)", "for\\s*\\(;;");
    /** All that the class uses of the library. */
    private static final Set<String> LIBRARY = Set.of("Math.min", "Math.max", "System.arraycopy");
    /** Those that go from place to place: each carries its depth and stops at the longest way. */
    private static final Set<String> RECURSIVE = new TreeSet<>(Set.of("beginErrand", "findFrom", "goOn"));
    private static final Check check = new Check("LanguageTest");

    public static void main(String[] args) throws IOException {
        face();
        classesInside();
        staticFields();
        String source = withoutComments(Files.readString(SOURCE));
        for (String sign : RULED_OUT) {
            check.holds("no " + sign, !Pattern.compile(sign).matcher(source).find());
        }
        library(source);
        methodsAreShort(source);
        madeInFieldsAlone(source);
        callsAreNotDeep(source);
        check.holds("signs 1 to 127", source.chars().allMatch(sign -> sign > 0 && sign < 128));
        check.finish();
    }

    private static void face() {
        check.holds("public and final", Modifier.isPublic(PlankNine.class.getModifiers())
            && Modifier.isFinal(PlankNine.class.getModifiers()));
        Set<String> methods = new TreeSet<>();
        for (Method method : PlankNine.class.getDeclaredMethods()) {
            if (Modifier.isPublic(method.getModifiers())) {
                methods.add(signed(method));
                check.holds(method + " is no static one", !Modifier.isStatic(method.getModifiers()));
            } else {
                check.holds(method + " is private", Modifier.isPrivate(method.getModifiers()));
            }
        }
        check.holds("methods " + methods, methods.equals(new TreeSet<>(FACE)));
        Set<String> constants = new TreeSet<>();
        for (Field field : PlankNine.class.getDeclaredFields()) {
            if (!Modifier.isPrivate(field.getModifiers())) {
                constants.add(field.getName());
                check.holds(field + " is public static final int", Modifier.isPublic(field.getModifiers())
                    && Modifier.isStatic(field.getModifiers()) && Modifier.isFinal(field.getModifiers())
                    && field.getType() == int.class);
            }
        }
        check.holds("constants " + constants, constants.equals(new TreeSet<>(CONSTANTS)));
        Constructor<?>[] constructors = PlankNine.class.getDeclaredConstructors();
        check.due("constructors", constructors.length, 1);
        check.due("its parameters", constructors[0].getParameterCount(), 0);
        check.holds("it is public", Modifier.isPublic(constructors[0].getModifiers()));
    }

    private static String signed(Method method) {
        StringBuilder text = new StringBuilder(method.getReturnType() + " " + method.getName() + "(");
        for (Class<?> type : method.getParameterTypes()) {
            text.append(text.charAt(text.length() - 1) == '(' ? "" : ", ").append(type);
        }
        return text.append(')').toString();
    }

    private static void classesInside() {
        Class<?>[] inside = PlankNine.class.getDeclaredClasses();
        check.holds("some twelve classes, not " + inside.length, inside.length <= 11);
        Set<String> names = new TreeSet<>();
        for (String signed : FACE) {
            names.add(signed.substring(signed.indexOf(' ') + 1, signed.indexOf('(')));
        }
        for (Class<?> one : inside) {
            check.holds(one + " is static", Modifier.isStatic(one.getModifiers()));
            check.holds(one + " is not for all", !Modifier.isPublic(one.getModifiers())
                && !Modifier.isProtected(one.getModifiers()));
            for (Method method : one.getDeclaredMethods()) {
                check.holds(method + " has a name of its own", !names.contains(method.getName()));
            }
            parameters(one.getDeclaredMethods());
            parameters(one.getDeclaredConstructors());
            fields(one);
        }
        parameters(PlankNine.class.getDeclaredMethods());
        fields(PlankNine.class);
    }

    private static void parameters(Executable[] executables) {
        for (Executable one : executables) {
            check.holds(one + " takes seven at most", one.getParameterCount() <= 7);
        }
    }

    private static void fields(Class<?> of) {
        int fields = 0;
        for (Field field : of.getDeclaredFields()) {
            fields += Modifier.isStatic(field.getModifiers()) ? 0 : 1;
        }
        check.holds(of + " has some twenty fields, not " + fields, fields <= 20);
    }

    private static void staticFields() {
        for (Class<?> one : PlankNine.class.getDeclaredClasses()) {
            staticFields(one);
        }
        staticFields(PlankNine.class);
    }

    private static void staticFields(Class<?> of) {
        for (Field field : of.getDeclaredFields()) {
            if (Modifier.isStatic(field.getModifiers())) {
                check.holds(field + " is a final int", Modifier.isFinal(field.getModifiers())
                    && field.getType() == int.class);
            }
        }
    }

    private static String withoutComments(String source) {
        return source.replaceAll("(?s)/\\*.*?\\*/", "").replaceAll("//[^\n]*", "");
    }

    private static void library(String source) {
        Matcher m = Pattern.compile("\\b(Math|System|Arrays|String|Integer|Long|Character)\\.\\w+").matcher(source);
        while (m.find()) {
            check.holds(m.group() + " is one of those used", LIBRARY.contains(m.group()));
        }
    }

    /** A method begins and ends with a brace at its own depth: one step in, or two in a class inside. */
    private static void methodsAreShort(String source) {
        String[] lines = source.split("\n");
        for (int i = 0; i < lines.length; i++) {
            Matcher m = Pattern.compile("^( {4}| {8})\\S.*\\) \\{$").matcher(lines[i]);
            if (!m.matches() || lines[i].trim().matches("(if|for|while|switch|\\}).*")) {
                continue;
            }
            int end = i;
            while (end < lines.length && !lines[end].equals(m.group(1) + "}")) {
                end++;
            }
            check.holds("sixty lines at most:" + lines[i], end - i <= 60);
        }
    }

    /** What a call would make is counted over all calls of a run: none makes anything. */
    private static void madeInFieldsAlone(String source) {
        for (String line : source.split("\n")) {
            if (line.matches(".*\\bnew\\b.*")) {
                check.holds("made once, with its object:" + line, line.matches(" +private final [\\w\\[\\]]+ \\w+ = .*;"));
            }
        }
        check.holds("texts are not joined", !source.matches("(?s).*(\"\\s*\\+|\\+\\s*\").*"));
    }

    /** Methods by their names, with the names that they call; two of one name are taken as one. */
    private static Map<String, Set<String>> callsByName(String source) {
        Map<String, String> bodies = new TreeMap<>();
        String[] lines = source.split("\n");
        for (int i = 0; i < lines.length; i++) {
            Matcher m = Pattern.compile("^( {4}| {8})\\w[\\w\\[\\] ]* (\\w+)\\(.*\\) \\{$").matcher(lines[i]);
            if (!m.matches() || lines[i].trim().matches("(if|for|while|switch)\\b.*")) {
                continue;
            }
            StringBuilder body = new StringBuilder();
            for (int at = i + 1; at < lines.length && !lines[at].equals(m.group(1) + "}"); at++) {
                body.append(lines[at]).append('\n');
            }
            bodies.merge(m.group(2), body.toString(), String::concat);
        }
        Map<String, Set<String>> calls = new TreeMap<>();
        for (Map.Entry<String, String> body : bodies.entrySet()) {
            Set<String> called = new TreeSet<>();
            Matcher m = Pattern.compile("(\\w+)\\(").matcher(body.getValue());
            while (m.find()) {
                if (bodies.containsKey(m.group(1))) {
                    called.add(m.group(1));
                }
            }
            calls.put(body.getKey(), called);
        }
        return calls;
    }

    private static void callsAreNotDeep(String source) {
        Map<String, Set<String>> calls = callsByName(source);
        Set<String> recursive = new TreeSet<>();
        for (String signed : FACE) {
            String name = signed.substring(signed.indexOf(' ') + 1, signed.indexOf('('));
            List<String> deepest = deepest(name, calls, new ArrayList<>(), recursive);
            check.holds("eight deep at most: " + deepest, !deepest.isEmpty() && deepest.size() <= 8);
        }
        check.alike("methods that come back to themselves", recursive.toString(), RECURSIVE.toString());
    }

    /** The longest chain of calls from a method; where one is on the chain already, that is recursion. */
    private static List<String> deepest(String name, Map<String, Set<String>> calls, List<String> above, Set<String> recursive) {
        if (above.contains(name)) {
            recursive.addAll(above.subList(above.indexOf(name), above.size()));
            return List.of();
        }
        List<String> here = new ArrayList<>(above);
        here.add(name);
        List<String> longest = here;
        for (String called : calls.getOrDefault(name, Set.of())) {
            List<String> chain = deepest(called, calls, here, recursive);
            longest = chain.size() > longest.size() ? chain : longest;
        }
        return longest;
    }
}
