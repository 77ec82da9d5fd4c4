import java.io.IOException;
import java.lang.reflect.Method;
import java.lang.reflect.Modifier;
import java.nio.file.Files;
import java.nio.file.Path;
import java.util.ArrayList;
import java.util.Arrays;
import java.util.List;
import java.util.regex.Matcher;
import java.util.regex.Pattern;

/**
 * The face as the document writes it, held against the source; how long an object is used; and
 * README.md, whose example must answer as it says and whose table must name every call.
 */
public final class FaceTest {
    private static final Path DOCUMENT = Path.of("../shared/DOC.md");
    private static final Path SOURCE = Path.of("src/main/java/PlankNine.java");
    private static final Path README = Path.of("README.md");
    private static final int MOST_CALLS = 512;
    private static final int CALLS_BEHIND = 4096;
    private static final Check check = new Check("FaceTest");

    public static void main(String[] args) throws IOException, ReflectiveOperationException {
        String document = Files.readString(DOCUMENT);
        String source = Files.readString(SOURCE);
        List<String> face = block(document, "public final class PlankNine {");
        asWritten(face, source);
        promisesAreTheFace(face, document);
        headings(document, source);
        usedFor512Calls();
        readme(face, Files.readString(README));
        check.finish();
    }

    /** The lines of the java block that has such a line, without what stands ahead of them. */
    private static List<String> block(String text, String with) {
        Matcher m = Pattern.compile("(?s)```java\n(.*?)```").matcher(text);
        while (m.find()) {
            if (m.group(1).contains(with)) {
                return m.group(1).lines().map(String::trim).toList();
            }
        }
        check.holds("there is a block with " + with, false);
        return List.of();
    }

    private static String nameOf(String line) {
        Matcher m = Pattern.compile("public \\w+ (\\w+)\\(.*").matcher(line);
        return m.matches() ? m.group(1) : "";
    }

    private static List<String> callsOf(List<String> face) {
        return face.stream().map(FaceTest::nameOf).filter(name -> !name.isEmpty()).toList();
    }

    /** Each line of the face stands in the source, in its order, and nothing else there is public. */
    private static void asWritten(List<String> face, String source) {
        check.sentence("public static final int BAD = -1, STATE = -2, FULL = -3, NONE = -9;");
        List<String> want = new ArrayList<>();
        for (String line : face) {
            want.add(line.endsWith(");") ? line.substring(0, line.length() - 1) + " {" : line);
        }
        want.removeIf(line -> !line.startsWith("public "));
        List<String> got = source.lines().map(String::trim).filter(line -> line.matches(".*\\b(public|protected)\\b.*")).toList();
        check.alike("what is public", String.join("\n  ", got), String.join("\n  ", want));
        check.due("calls, constants' lines, the constructor and the class", want.size(), 24 + 2 + 1 + 1);
    }

    private static void promisesAreTheFace(List<String> face, String document) {
        check.sentence("## Promise 1: A new object `PlankNine()`");
        List<String> named = new ArrayList<>();
        Matcher m = Pattern.compile("(?m)^## Promise (\\d+): (\\w+)$").matcher(document);
        while (m.find()) {
            named.add(m.group(2));
            check.due("the number of " + m.group(2), Integer.parseInt(m.group(1)), named.size() + 1);
        }
        check.alike("the promises' calls", named.toString(), callsOf(face).toString());
    }

    private static void headings(String document, String source) {
        check.sentence("the interface says: ---- the marsh.");
        Matcher m = Pattern.compile("Ahead of the calls (.*) the interface says: (---- .*)\\.").matcher(document);
        int found = 0;
        while (m.find()) {
            found++;
            String heading = "// " + m.group(2) + "\n";
            check.holds("the source says " + m.group(2), source.contains(heading));
            String behind = source.substring(source.indexOf(heading) + heading.length());
            String part = behind.split("// ----")[0];
            List<String> calls = callsOf(part.lines().map(String::trim).toList());
            check.alike("the calls behind " + m.group(2), "`" + String.join("`, `", calls) + "`", m.group(1));
        }
        check.due("headings", found, 4);
    }

    // ---- how long an object is used

    /** Up to its last promised call an object answers as told; behind it, it may answer anything, but not throw. */
    private static void usedFor512Calls() throws ReflectiveOperationException {
        check.sentence("An object is used for at most 512 calls after it has been made; what later calls answer is free.");
        PlankNine x = new PlankNine();
        Model m = new Model();
        int calls = 0;
        String text = "plank 0 1 9;plank 1 2 5;plank 0 2 4;person 1 1;person 3 2;errand 0 0 2;errand 1 2 0;";
        for (char sign : text.toCharArray()) {
            calls++;
            check.due("type " + sign, x.type(sign, 1), m.type(sign, 1));
        }
        calls++;
        check.due("marsh", x.marsh(), m.marsh());
        List<Method> all = publicCalls();
        while (calls < MOST_CALLS) {
            Method call = all.get(calls % all.size());
            Object[] numbers = numbersFor(call, calls);
            calls++;
            long want = ((Number) theSameOfModel(call).invoke(m, numbers)).longValue();
            check.due(calls + ". call " + call.getName() + Arrays.toString(numbers), ((Number) call.invoke(x, numbers)).longValue(), want);
        }
        check.due("calls", calls, MOST_CALLS);
        for (int more = 0; more < CALLS_BEHIND; more++) {
            Method call = all.get(more % all.size());
            check.holds(call.getName(), call.invoke(x, numbersFor(call, more / 7)) != null);
        }
        // These two throw nothing, either: one on the bytes that were typed, one on the empty text.
        x.marsh();
        x.clear();
        x.marsh();
    }

    private static List<Method> publicCalls() {
        List<Method> calls = new ArrayList<>();
        for (Method method : PlankNine.class.getDeclaredMethods()) {
            // A text that is read or cleared would leave nobody to ask for.
            if (Modifier.isPublic(method.getModifiers()) && !method.getName().equals("marsh") && !method.getName().equals("clear")) {
                calls.add(method);
            }
        }
        calls.sort((one, other) -> one.getName().compareTo(other.getName()));
        return calls;
    }

    private static Method theSameOfModel(Method call) throws NoSuchMethodException {
        return Model.class.getDeclaredMethod(call.getName(), call.getParameterTypes());
    }

    private static Object[] numbersFor(Method call, int turn) {
        Object[] numbers = new Object[call.getParameterCount()];
        int rest = turn;
        for (int i = 0; i < numbers.length; i++) {
            int number = rest % 4 - (i + 1) / 4;
            rest = rest / 4 + turn % 3;
            if (call.getParameterTypes()[i] == long.class) {
                numbers[i] = (long) number;
            } else {
                numbers[i] = number;
            }
        }
        return numbers;
    }

    // ---- README.md

    private static void readme(List<String> face, String readme) throws ReflectiveOperationException {
        int answers = 0;
        PlankNine x = new PlankNine();
        Pattern line = Pattern.compile("x\\.(\\w+)\\((.*)\\); +// (-?\\d+): .*");
        for (String said : block(readme, "new PlankNine()")) {
            Matcher m = line.matcher(said);
            if (m.matches()) {
                answers++;
                check.due("README.md: " + said, called(x, m.group(1), m.group(2)), Long.parseLong(m.group(3)));
            } else {
                check.alike("README.md: a line without an answer", said, "PlankNine x = new PlankNine();");
            }
        }
        check.holds("the example has answers", answers > 8);
        List<String> rows = new ArrayList<>();
        Matcher row = Pattern.compile("(?m)^\\| `(\\w+)\\(").matcher(readme);
        while (row.find()) {
            rows.add(row.group(1));
        }
        check.alike("README.md: the table's calls", rows.toString(), callsOf(face).toString());
    }

    private static long called(PlankNine x, String name, String numbers) throws ReflectiveOperationException {
        String[] told = numbers.isEmpty() ? new String[0] : numbers.split(", ");
        for (Method call : PlankNine.class.getDeclaredMethods()) {
            if (call.getName().equals(name) && call.getParameterCount() == told.length) {
                Object[] given = new Object[told.length];
                for (int i = 0; i < told.length; i++) {
                    long number = Long.decode(told[i].replace("L", ""));
                    given[i] = call.getParameterTypes()[i] == long.class ? (Object) number : (Object) (int) number;
                }
                return ((Number) call.invoke(x, given)).longValue();
            }
        }
        throw new NoSuchMethodException(name + " of " + told.length);
    }
}
