import java.lang.reflect.InvocationTargetException;
import java.lang.reflect.Method;
import java.util.Arrays;
import java.util.Comparator;

/**
 * Every call of the face with every mix of numbers at and beyond the edges: none may throw, and
 * each answer and all that is left behind it are held against the Model's.
 */
public final class EdgesTest {
    private static final int[] NUMBERS = {Integer.MIN_VALUE, -2, -1, 0, 1, 2, 3, 4, 6, 9, Integer.MAX_VALUE};
    private static final String[] TEXTS = {
        "",
        "marsh 2;plank 0 1 1;person 3 2;errand 0 1 0;",
        "marsh 5;plank 0 1 3;plank 1 2 9;plank 0 2 2;plank 2 3 4;plank 3 4 1;person 1 1;person 2 2;errand 1 0 4;",
        "marsh 6;plank 0 1 9;plank 0 1 8;plank 0 1 7;plank 1 2 9;plank 1 2 8;plank 1 2 7;plank 2 3 9;plank 2 3 8;"
            + "plank 2 3 7;person 1 1;person 2 2;person 3 1;person 3 2;errand 0 0 3;errand 1 3 0;errand 3 0 3;"};
    private static final Check check = new Check("EdgesTest");

    public static void main(String[] args) throws IllegalAccessException, NoSuchMethodException {
        Method[] calls = PlankNine.class.getDeclaredMethods();
        Arrays.sort(calls, Comparator.comparing(Method::getName));
        for (String text : TEXTS) {
            for (Method call : calls) {
                boolean isOfTheFace = java.lang.reflect.Modifier.isPublic(call.getModifiers());
                if (isOfTheFace) {
                    tryAll(text, call);
                }
            }
        }
        check.finish();
    }

    private static void tryAll(String text, Method call) throws IllegalAccessException, NoSuchMethodException {
        Method due = Model.class.getDeclaredMethod(call.getName(), call.getParameterTypes());
        PlankNine x = new PlankNine();
        Model m = new Model();
        tell(x, m, text);
        x.keep(1);
        m.keep(1);
        int count = call.getParameterCount();
        int mixes = (int) Math.round(Math.pow(NUMBERS.length, count));
        for (int mix = 0; mix < mixes; mix++) {
            Object[] numbers = new Object[count];
            int rest = mix;
            for (int i = 0; i < count; i++) {
                int number = NUMBERS[rest % NUMBERS.length];
                rest /= NUMBERS.length;
                if (call.getParameterTypes()[i] == long.class) {
                    numbers[i] = (long) number;
                } else {
                    numbers[i] = number;
                }
            }
            String told = call.getName() + Arrays.toString(numbers) + " of '" + text + "'";
            check.due(told, answer(call, x, numbers), answer(due, m, numbers));
            for (int what = 4; what <= 6; what++) {
                check.due("count " + what + " behind " + told, x.count(what), m.count(what));
            }
        }
    }

    private static void tell(PlankNine x, Model m, String text) {
        Check.say(x, text);
        for (char sign : text.toCharArray()) {
            m.type(sign, 1);
        }
        check.due("marsh " + text, x.marsh(), m.marsh());
    }

    private static long answer(Method call, Object of, Object[] numbers) throws IllegalAccessException {
        try {
            return ((Number) call.invoke(of, numbers)).longValue();
        } catch (InvocationTargetException e) {
            check.holds(call.getName() + Arrays.toString(numbers) + " threw " + e.getCause(), false);
            return Long.MIN_VALUE;
        }
    }
}
