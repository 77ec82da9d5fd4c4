/** Promises 1 to 25 together: long runs of calls, each answer held against the Model's. */
public final class ModelTest {
    private static final int RUNS = 400;
    private static final int CALLS = 500;
    private static final Check check = new Check("ModelTest");

    private final PlankNine x = new PlankNine();
    private final Model m = new Model();
    private final String name;
    private long seed;

    private ModelTest(int run) {
        name = "run " + run + " ";
        seed = 1000003L * run + 7;
    }

    public static void main(String[] args) {
        for (int run = 0; run < RUNS; run++) {
            new ModelTest(run).run(run);
        }
        check.finish();
    }

    private void run(int run) {
        for (int call = 0; call < CALLS; call++) {
            if (call % 100 == 0) {
                tellAnew(run % 4 == 3);
            }
            ask(pick(60));
            if (call % 50 == 49) {
                lookAtAll();
            }
        }
    }

    /** The same numbers in every run of the tests. */
    private int pick(int below) {
        seed = seed * 6364136223846793005L + 1442695040888963407L;
        return (int) ((seed >>> 33) % below);
    }

    private int place() {
        return pick(40) == 0 ? pick(9) - 1 : pick(Math.max(1, m.count(0)));
    }

    private int plank() {
        return pick(30) == 0 ? pick(12) - 1 : pick(Math.max(1, m.count(1)));
    }

    private int person() {
        return pick(30) == 0 ? pick(7) - 1 : pick(Math.max(1, m.count(2)));
    }

    private int what(int most) {
        return pick(30) == 0 ? pick(2) * (most + 2) - 1 : pick(most + 1);
    }

    private void type(String text) {
        int at = 0;
        while (at < text.length()) {
            int n = Math.min(1 + pick(8), text.length() - at);
            long v = Check.packed(text.substring(at, at + n)) | (n < 8 ? (long) pick(1000) << 8 * n : 0);
            check.due(name + "type " + text, x.type(v, n), m.type(v, n));
            at += n;
        }
    }

    private void tellAnew(boolean mayBeWrong) {
        check.due(name + "clear", x.clear(), m.clear());
        String text = textOfItems();
        if (mayBeWrong) {
            text = spoilt(text);
        }
        type(text);
        check.due(name + "marsh " + text, x.marsh(), m.marsh());
    }

    private String textOfItems() {
        StringBuilder text = new StringBuilder();
        int n = 4;
        if (pick(4) != 0) {
            n = 2 + pick(5);
            text.append("marsh ").append(n).append(';');
        }
        int people = pick(5);
        for (int p = 0; p < people; p++) {
            text.append("person ").append(1 + pick(3)).append(' ').append(1 + pick(2)).append(';');
        }
        int planks = pick(3) == 0 ? pick(10) : 6 + pick(4);
        for (int k = 0; k < planks; k++) {
            text.append("plank ").append(two(n)).append(' ').append(pick(10)).append(';');
        }
        int errands = people == 0 ? 0 : pick(4);
        for (int e = 0; e < errands; e++) {
            text.append("errand ").append(pick(people)).append(' ').append(two(n)).append(';');
        }
        return text.toString();
    }

    private String two(int n) {
        int a = pick(n);
        int b = (a + 1 + pick(n - 1)) % n;
        return a + " " + b;
    }

    /** One to three bytes put in, taken out or made others. */
    private String spoilt(String text) {
        String signs = "  ;;0123456789 marshplankpersonerrandzA{" + (char) 200 + (char) 0;
        StringBuilder other = new StringBuilder(text);
        for (int change = 0; change <= pick(3); change++) {
            int at = pick(other.length() + 1);
            char sign = signs.charAt(pick(signs.length()));
            int how = pick(3);
            if (how == 0 || at == other.length()) {
                other.insert(at, sign);
            } else if (how == 1) {
                other.setCharAt(at, sign);
            } else {
                other.deleteCharAt(at);
            }
        }
        return other.toString();
    }

    private void ask(int call) {
        if (call < 30) {
            askWhoGoes(call);
        } else if (call < 50) {
            askWhatCanBe(call);
        } else {
            askTheRest(call);
        }
    }

    private void askWhoGoes(int call) {
        int p = person();
        int a = place();
        int b = place();
        int k = plank();
        int l = plank();
        String with = name + p + " " + a + " " + b + " " + k + " " + l;
        if (call < 8) {
            int i = pick(20) == 0 ? pick(9) - 2 : pick(4) - 1;
            check.due("way " + i + " of " + with, x.way(p, a, b, i), m.way(p, a, b, i));
        } else if (call < 13) {
            check.due("go " + with, x.go(p, a, b), m.go(p, a, b));
        } else if (call < 16) {
            check.due("steps " + with, x.steps(p, k), m.steps(p, k));
        } else if (call < 18) {
            int n = pick(30) == 0 ? pick(12) - 1 : 1 + pick(2);
            check.due("days " + n + " " + with, x.days(n), m.days(n));
        } else if (call < 20) {
            int i = pick(24) - 1;
            int what = what(1);
            check.due("went " + i + " " + what + " " + with, x.went(i, what), m.went(i, what));
        } else if (call < 23) {
            check.due("frost " + with, x.frost(), m.frost());
        } else if (call < 27) {
            check.due("cart " + with, x.cart(k), m.cart(k));
        } else {
            check.due("exchange " + with, x.exchange(k, l), m.exchange(k, l));
        }
    }

    private void askWhatCanBe(int call) {
        int w = pick(30) == 0 ? pick(6) - 1 : 1 + pick(3);
        int a = place();
        int b = place();
        int what = what(1);
        int image = what(1);
        String with = name + w + " " + a + " " + b + " " + what + " " + image;
        if (call < 33) {
            check.due("all " + with, x.all(what), m.all(what));
        } else if (call < 38) {
            check.due("often " + with, x.often(w, a, b, what), m.often(w, a, b, what));
        } else if (call < 42) {
            check.due("better " + with, x.better(w, a, b, what), m.better(w, a, b, what));
        } else if (call < 46) {
            int k = pick(3) == 0 ? -1 : plank();
            check.due("spent " + k + " " + with, x.spent(image, k), m.spent(image, k));
        } else {
            check.due("tell " + with, x.tell(image), m.tell(image));
        }
    }

    private void askTheRest(int call) {
        int p = person();
        int image = what(1);
        if (call < 54) {
            int kind = what(5);
            check.due(name + "rate " + kind + " " + p, x.rate(kind, p), m.rate(kind, p));
        } else if (call < 55) {
            check.due(name + "keep " + image, x.keep(image), m.keep(image));
        } else if (call < 56) {
            check.due(name + "back " + image, x.back(image), m.back(image));
        } else if (call < 58) {
            int what = what(6);
            check.due(name + "count " + what, x.count(what), m.count(what));
        } else if (call < 59) {
            int n = pick(11) - 1;
            check.due(name + "type " + n, x.type(seed, n), m.type(seed, n));
        } else {
            check.due(name + "trace", x.trace(), m.trace());
        }
    }

    private void lookAtAll() {
        for (int what = 0; what <= 6; what++) {
            check.due(name + "count " + what, x.count(what), m.count(what));
            for (int i = 0; i < 9; i++) {
                check.due(name + "plank " + i + " " + what, x.plank(i, what), m.plank(i, what));
                check.due(name + "person " + i + " " + what, x.person(i, what), m.person(i, what));
                check.due(name + "errand " + i + " " + what, x.errand(i, what), m.errand(i, what));
            }
        }
        for (int i = 0; i <= 20; i++) {
            check.due(name + "went " + i, x.went(i, 0), m.went(i, 0));
            check.due(name + "with " + i, x.went(i, 1), m.went(i, 1));
        }
        check.due(name + "trace", x.trace(), m.trace());
    }
}
