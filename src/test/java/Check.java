import java.io.IOException;
import java.io.UncheckedIOException;
import java.nio.file.Files;
import java.nio.file.Path;
import java.util.function.Supplier;
import java.util.function.ToLongFunction;

/** Counts and prints what is not as due; each test's main ends with finish(). */
final class Check {
    private static final Path DOCUMENT = Path.of("../shared/DOC.md");

    private final String test;
    private String words = "";
    private int wrong = 0;
    private int asked = 0;

    Check(String test) {
        this.test = test;
    }

    /** The words of the document that the next answers are held against; they must stand there. */
    void sentence(String quoted) {
        words = "";
        holds("the document says: " + quoted, document().contains(quoted));
        words = " [" + quoted + "]";
    }

    private static String document() {
        try {
            return Files.readString(DOCUMENT).replaceAll("\\s+", " ");
        } catch (IOException e) {
            throw new UncheckedIOException(e);
        }
    }

    void due(String call, long got, long want) {
        asked++;
        if (got != want) {
            wrong++;
            System.out.println(test + words + ": " + call + " answered " + got + ", due is " + want);
        }
    }

    void holds(String what, boolean isSo) {
        due(what, isSo ? 1 : 0, 1);
    }

    void alike(String what, String got, String want) {
        asked++;
        if (!got.equals(want)) {
            wrong++;
            System.out.println(test + words + ": " + what + " is\n  " + got + "\n  due is\n  " + want);
        }
    }

    /** A call on an object answers what is due, and leaves it as its twin, which was not called. */
    void changesNothing(String call, Supplier<PlankNine> made, ToLongFunction<PlankNine> asks, long want) {
        PlankNine x = made.get();
        due(call, asks.applyAsLong(x), want);
        alike("what is there behind " + call, Sight.whole(x), Sight.whole(made.get()));
    }

    /** Numbers that are not least .. most: next to it on either side, and the farthest. */
    static int[] beyond(int least, int most) {
        return new int[] {least - 1, most + 1, least - 2, most + 2, Integer.MIN_VALUE, Integer.MAX_VALUE};
    }

    /** Types a text, eight bytes at a time; its characters are bytes (0 .. 255). */
    static void say(PlankNine x, String text) {
        for (int at = 0; at < text.length(); at += 8) {
            String part = text.substring(at, Math.min(text.length(), at + 8));
            x.type(packed(part), part.length());
        }
    }

    /** A new object that has read a text without a fault. */
    static PlankNine told(String text) {
        PlankNine x = new PlankNine();
        say(x, text);
        if (x.marsh() < 0) {
            throw new IllegalStateException("not read: " + text);
        }
        return x;
    }

    static long packed(String part) {
        long v = 0;
        for (int i = 0; i < part.length(); i++) {
            v = v << 8 | part.charAt(i) & 255;
        }
        return v;
    }

    void finish() {
        System.out.println(test + ": " + asked + " answers, " + wrong + " not as due");
        if (wrong != 0) {
            System.exit(1);
        }
    }
}
