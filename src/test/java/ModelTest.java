/**
 * Promises 1 to 25 together: runs of calls, as long as an object is used, each answer held against
 * the Model's.
 */
public final class ModelTest {
    private static final int RUNS = 3000;
    private static final int MOST_CALLS = 512;
    /** What lookAtAll and tellAnew come to at most. */
    private static final int CALLS_TO_LOOK = 107;
    private static final int CALLS_TO_TELL = 220;
    private static final Check check = new Check("ModelTest");

    private final PlankNine x = new PlankNine();
    private final Model m = new Model();
    private final String name;
    private int calls = 0;
    private long seed;

    private ModelTest(int run) {
        name = "run " + run + " ";
        seed = 1000003L * run + 7;
    }

    public static void main(String[] args) {
        for (int run = 0; run < RUNS; run++) {
            new ModelTest(run).run(run);
        }
        check.finish();
    }

    private void run(int run) {
        tellAnew(run % 4 == 3);
        while (calls < MOST_CALLS - CALLS_TO_LOOK) {
            if (pick(100) == 0 && calls < MOST_CALLS - CALLS_TO_LOOK - CALLS_TO_TELL) {
                tellAnew(run % 4 == 3);
            }
            ask(pick(60));
        }
        lookAtAll();
        check.holds(name + "calls: " + calls, calls <= MOST_CALLS);
    }

    private void due(String call, long got, long want) {
        calls++;
        check.due(name + call, got, want);
    }

    /** The same numbers in every run of the tests. */
    private int pick(int below) {
        seed = seed * 6364136223846793005L + 1442695040888963407L;
        return (int) ((seed >>> 33) % below);
    }

    private int place() {
        return pick(40) == 0 ? pick(9) - 1 : pick(Math.max(1, m.count(0)));
    }

    private int plank() {
        return pick(30) == 0 ? pick(12) - 1 : pick(Math.max(1, m.count(1)));
    }

    private int person() {
        return pick(30) == 0 ? pick(7) - 1 : pick(Math.max(1, m.count(2)));
    }

    private int what(int most) {
        return pick(30) == 0 ? pick(2) * (most + 2) - 1 : pick(most + 1);
    }

    private void type(String text) {
        int at = 0;
        while (at < text.length()) {
            int n = Math.min(1 + pick(8), text.length() - at);
            long v = Check.packed(text.substring(at, at + n)) | (n < 8 ? (long) pick(1000) << 8 * n : 0);
            due("type " + text, x.type(v, n), m.type(v, n));
            at += n;
        }
    }

    private void tellAnew(boolean mayBeWrong) {
        due("clear", x.clear(), m.clear());
        String text = textOfItems();
        if (mayBeWrong) {
            text = spoilt(text);
        }
        type(text);
        due("marsh " + text, x.marsh(), m.marsh());
    }

    private String textOfItems() {
        StringBuilder text = new StringBuilder();
        int n = 4;
        if (pick(4) != 0) {
            n = 2 + pick(5);
            text.append("marsh ").append(n).append(';');
        }
        int people = pick(5);
        for (int p = 0; p < people; p++) {
            text.append("person ").append(1 + pick(3)).append(' ').append(1 + pick(2)).append(';');
        }
        int planks = pick(3) == 0 ? pick(10) : 6 + pick(4);
        for (int k = 0; k < planks; k++) {
            text.append("plank ").append(two(n)).append(' ').append(pick(10)).append(';');
        }
        int errands = people == 0 ? 0 : pick(4);
        for (int e = 0; e < errands; e++) {
            text.append("errand ").append(pick(people)).append(' ').append(two(n)).append(';');
        }
        return text.toString();
    }

    private String two(int n) {
        int a = pick(n);
        int b = (a + 1 + pick(n - 1)) % n;
        return a + " " + b;
    }

    /** One to three bytes put in, taken out or made others. */
    private String spoilt(String text) {
        String signs = "  ;;0123456789 marshplankpersonerrandzA{" + (char) 200 + (char) 0;
        StringBuilder other = new StringBuilder(text);
        for (int change = 0; change <= pick(3); change++) {
            int at = pick(other.length() + 1);
            char sign = signs.charAt(pick(signs.length()));
            int how = pick(3);
            if (how == 0 || at == other.length()) {
                other.insert(at, sign);
            } else if (how == 1) {
                other.setCharAt(at, sign);
            } else {
                other.deleteCharAt(at);
            }
        }
        return other.toString();
    }

    private void ask(int call) {
        if (call < 30) {
            askWhoGoes(call);
        } else if (call < 50) {
            askWhatCanBe(call);
        } else {
            askTheRest(call);
        }
    }

    private void askWhoGoes(int call) {
        int p = person();
        int a = place();
        int b = place();
        int k = plank();
        int l = plank();
        String with = p + " " + a + " " + b + " " + k + " " + l;
        if (call < 8) {
            int i = pick(20) == 0 ? pick(9) - 2 : pick(4) - 1;
            due("way " + i + " of " + with, x.way(p, a, b, i), m.way(p, a, b, i));
        } else if (call < 13) {
            due("go " + with, x.go(p, a, b), m.go(p, a, b));
        } else if (call < 16) {
            due("steps " + with, x.steps(p, k), m.steps(p, k));
        } else if (call < 18) {
            int n = pick(30) == 0 ? pick(12) - 1 : 1 + pick(2);
            due("days " + n + " " + with, x.days(n), m.days(n));
        } else if (call < 20) {
            int i = pick(24) - 1;
            int what = what(1);
            due("went " + i + " " + what + " " + with, x.went(i, what), m.went(i, what));
        } else if (call < 23) {
            due("frost " + with, x.frost(), m.frost());
        } else if (call < 27) {
            due("cart " + with, x.cart(k), m.cart(k));
        } else {
            due("exchange " + with, x.exchange(k, l), m.exchange(k, l));
        }
    }

    private void askWhatCanBe(int call) {
        int w = pick(30) == 0 ? pick(6) - 1 : 1 + pick(3);
        int a = place();
        int b = place();
        int what = what(1);
        int image = what(1);
        String with = w + " " + a + " " + b + " " + what + " " + image;
        if (call < 33) {
            due("all " + with, x.all(what), m.all(what));
        } else if (call < 38) {
            due("often " + with, x.often(w, a, b, what), m.often(w, a, b, what));
        } else if (call < 42) {
            due("better " + with, x.better(w, a, b, what), m.better(w, a, b, what));
        } else if (call < 46) {
            int k = pick(3) == 0 ? -1 : plank();
            due("spent " + k + " " + with, x.spent(image, k), m.spent(image, k));
        } else {
            due("tell " + with, x.tell(image), m.tell(image));
        }
    }

    private void askTheRest(int call) {
        int p = person();
        int image = what(1);
        if (call < 54) {
            int kind = what(5);
            due("rate " + kind + " " + p, x.rate(kind, p), m.rate(kind, p));
        } else if (call < 55) {
            due("keep " + image, x.keep(image), m.keep(image));
        } else if (call < 56) {
            due("back " + image, x.back(image), m.back(image));
        } else if (call < 58) {
            int what = what(6);
            due("count " + what, x.count(what), m.count(what));
        } else if (call < 59) {
            int n = pick(11) - 1;
            due("type " + n, x.type(seed, n), m.type(seed, n));
        } else {
            due("trace", x.trace(), m.trace());
        }
    }

    private void lookAtAll() {
        for (int what = 0; what <= 6; what++) {
            due("count " + what, x.count(what), m.count(what));
        }
        for (int what = 0; what <= 2; what++) {
            for (int i = 0; i <= 9; i++) {
                due("plank " + i + " " + what, x.plank(i, what), m.plank(i, what));
            }
            for (int i = 0; i <= 4; i++) {
                due("person " + i + " " + what, x.person(i, what), m.person(i, what));
            }
            for (int i = 0; i <= 3; i++) {
                due("errand " + i + " " + what, x.errand(i, what), m.errand(i, what));
            }
        }
        for (int i = 0; i <= 20; i++) {
            due("went " + i, x.went(i, 0), m.went(i, 0));
            due("with " + i, x.went(i, 1), m.went(i, 1));
        }
        due("trace", x.trace(), m.trace());
    }
}
