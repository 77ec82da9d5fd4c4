/** Counts and prints what is not as due; each test's main ends with finish(). */
final class Check {
    private final String test;
    private int wrong = 0;
    private int asked = 0;

    Check(String test) {
        this.test = test;
    }

    void due(String call, long got, long want) {
        asked++;
        if (got != want) {
            wrong++;
            System.out.println(test + ": " + call + " answered " + got + ", due is " + want);
        }
    }

    void holds(String what, boolean isSo) {
        due(what, isSo ? 1 : 0, 1);
    }

    /** Types a text, eight bytes at a time; its characters are bytes (0 .. 255). */
    static void say(PlankNine x, String text) {
        for (int at = 0; at < text.length(); at += 8) {
            String part = text.substring(at, Math.min(text.length(), at + 8));
            x.type(packed(part), part.length());
        }
    }

    /** A new object that has read a text without a fault. */
    static PlankNine told(String text) {
        PlankNine x = new PlankNine();
        say(x, text);
        if (x.marsh() < 0) {
            throw new IllegalStateException("not read: " + text);
        }
        return x;
    }

    static long packed(String part) {
        long v = 0;
        for (int i = 0; i < part.length(); i++) {
            v = v << 8 | part.charAt(i) & 255;
        }
        return v;
    }

    void finish() {
        System.out.println(test + ": " + asked + " answers, " + wrong + " not as due");
        if (wrong != 0) {
            System.exit(1);
        }
    }
}
