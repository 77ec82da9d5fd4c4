import java.lang.reflect.InvocationTargetException;
import java.lang.reflect.Method;
import java.lang.reflect.Modifier;
import java.util.Arrays;
import java.util.Comparator;
import java.util.List;

/**
 * Every call of the face with every mix of numbers at and beyond the edges, on objects in several
 * states: none may throw, each answers as the Model does, and a refused one or a question leaves
 * the object as its twin that was not called.
 */
public final class EdgesTest {
    private static final int[] NUMBERS = {Integer.MIN_VALUE, -2, -1, 0, 1, 2, 3, 4, 6, 9, Integer.MAX_VALUE};
    private static final List<String> QUESTIONS = List.of("plank", "person", "errand", "way", "went", "all", "often",
        "better", "spent", "tell", "count", "trace");
    private static final Check check = new Check("EdgesTest");

    /** What was told, then done, and what stands in THE TEXT. */
    private record State(String told, String done, String text) { }

    private static final List<State> STATES = List.of(
        new State("", "", ""),
        new State("marsh 2;plank 0 1 1;person 3 2;errand 0 1 0;", "keep 1", "person 1 1;"),
        new State("marsh 5;plank 0 1 3;plank 1 2 9;plank 0 2 2;plank 2 3 4;plank 3 4 1;person 1 1;person 2 2;errand 1 0 4;",
            "keep 0,steps 0 4,rate 4 1,steps 1 2,cart 3", "plank 0 1 1;?"),
        new State("marsh 6;plank 0 1 9;plank 0 1 8;plank 0 1 7;plank 1 2 9;plank 1 2 8;plank 1 2 7;plank 2 3 9;plank 2 3 8;"
            + "plank 2 3 7;person 1 1;person 2 2;person 3 1;person 3 2;errand 0 0 3;errand 1 3 0;errand 3 0 3;",
            "keep 0,days 9,keep 1,cart 0,cart 3,cart 8,days 9,rate 5 2", " ".repeat(288) + "marsh 6;"));

    public static void main(String[] args) throws ReflectiveOperationException {
        Method[] calls = PlankNine.class.getDeclaredMethods();
        Arrays.sort(calls, Comparator.comparing(Method::getName));
        for (State state : STATES) {
            String seen = Sight.whole(made(state));
            for (Method call : calls) {
                if (Modifier.isPublic(call.getModifiers())) {
                    tryAll(state, seen, call);
                }
            }
        }
        check.finish();
    }

    private static void tryAll(State state, String seen, Method call) throws ReflectiveOperationException {
        Method due = Model.class.getDeclaredMethod(call.getName(), call.getParameterTypes());
        int count = call.getParameterCount();
        int mixes = (int) Math.round(Math.pow(NUMBERS.length, count));
        Model m = model(state);
        for (int mix = 0; mix < mixes; mix++) {
            Object[] numbers = mixed(call, mix);
            String told = call.getName() + Arrays.toString(numbers) + " in '" + state + "'";
            PlankNine x = made(state);
            long want = answer(due, m, numbers);
            check.due(told, answer(call, x, numbers), want);
            if (QUESTIONS.contains(call.getName()) || isRefused(call.getName(), want)) {
                check.alike("what is there behind " + told, Sight.whole(x), seen);
            } else {
                for (int what = 0; what <= 6; what++) {
                    check.due("count " + what + " behind " + told, x.count(what), m.count(what));
                }
                m = model(state);
            }
        }
    }

    private static Object[] mixed(Method call, int mix) {
        Object[] numbers = new Object[call.getParameterCount()];
        int rest = mix;
        for (int i = 0; i < numbers.length; i++) {
            int number = NUMBERS[rest % NUMBERS.length];
            rest /= NUMBERS.length;
            if (call.getParameterTypes()[i] == long.class) {
                numbers[i] = (long) number;
            } else {
                numbers[i] = number;
            }
        }
        return numbers;
    }

    /** A rate may be below 0: it alone has another number for what is refused. */
    private static boolean isRefused(String name, long answer) {
        return name.equals("rate") ? answer == PlankNine.NO : answer < 0;
    }

    private static PlankNine made(State state) throws ReflectiveOperationException {
        PlankNine x = Check.told(state.told);
        doAll(x, state);
        Check.say(x, state.text);
        return x;
    }

    private static Model model(State state) throws ReflectiveOperationException {
        Model m = new Model();
        type(m, state.told);
        m.marsh();
        doAll(m, state);
        type(m, state.text);
        return m;
    }

    private static void type(Model m, String text) {
        for (char sign : text.toCharArray()) {
            m.type(sign, 1);
        }
    }

    private static void doAll(Object of, State state) throws ReflectiveOperationException {
        for (String one : state.done.split(",")) {
            String[] words = one.split(" ");
            if (words.length == 2) {
                of.getClass().getDeclaredMethod(words[0], int.class).invoke(of, Integer.parseInt(words[1]));
            } else if (words.length == 3) {
                of.getClass().getDeclaredMethod(words[0], int.class, int.class)
                    .invoke(of, Integer.parseInt(words[1]), Integer.parseInt(words[2]));
            }
        }
    }

    private static long answer(Method call, Object of, Object[] numbers) throws IllegalAccessException {
        try {
            return ((Number) call.invoke(of, numbers)).longValue();
        } catch (InvocationTargetException e) {
            check.holds(call.getName() + Arrays.toString(numbers) + " threw " + e.getCause(), false);
            return Long.MIN_VALUE;
        }
    }
}
