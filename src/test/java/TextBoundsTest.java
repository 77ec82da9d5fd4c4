/** Boundary cases of THE TEXT: promises 1 to 3, what type and clear do at their ends. */
public final class TextBoundsTest {
    private static final int MOST = 300;
    private static final Check check = new Check("TextBoundsTest");

    public static void main(String[] args) {
        newObject();
        howManyBytes();
        highestFirst();
        whatIsAboveDoesNotCome();
        lastByteThatFits();
        everyByteIsKept();
        badAheadOfFull();
        clearing();
        clearingAFullOne();
        check.finish();
    }

    private static void newObject() {
        check.sentence("As told; four PLACES, no PLANKS, nobody.");
        PlankNine x = new PlankNine();
        check.alike("a new one", Sight.now(x), " counts: 4 0 0 0 0 0 0 ends: people: errands: bear: went: -5"
            + " spent0: -2 tell -2 spent1: -2 tell -2 trace 0");
        check.due("places 0 and 3 are there", x.often(1, 0, 3, 0), 0);
        check.due("3 and 0", x.often(1, 3, 0, 1), 0);
        check.due("place 4 is not", x.often(1, 0, 4, 0), PlankNine.BAD);
        check.due("nor is -1", x.often(1, -1, 0, 0), PlankNine.BAD);
        check.due("no plank", x.cart(0), PlankNine.BAD);
        check.due("nobody", x.way(0, 0, 1, -1), PlankNine.BAD);
        check.due("no errand is left undone", x.days(9), 0);
        check.due("each of no errands can be done", x.all(0), 1);
        check.due("nothing is left of nothing", x.all(1), 0);
        check.alike("another new one", Sight.whole(new PlankNine()), Sight.whole(x));
    }

    private static void howManyBytes() {
        check.sentence("The lowest n (1 .. 8) bytes of v");
        for (int n = 1; n <= 8; n++) {
            check.due("n " + n, new PlankNine().type(0, n), n);
        }
        for (int n : new int[] {0, 9, -1, -8, 10, 256 + 1, Integer.MIN_VALUE, Integer.MIN_VALUE + 1, Integer.MAX_VALUE}) {
            check.changesNothing("n " + n, TextBoundsTest::begun, x -> x.type(Check.packed("n 1 1;"), n), PlankNine.BAD);
        }
    }

    /** An object with a text that tells one of the people if nothing came to it. */
    private static PlankNine begun() {
        PlankNine x = new PlankNine();
        Check.say(x, "person 3 2;");
        return x;
    }

    private static void highestFirst() {
        check.sentence("the highest of them first, come to THE TEXT: how many it has.");
        String text = "person 2 1;plank 0 1 7;";
        for (int n = 1; n <= 8; n++) {
            PlankNine x = new PlankNine();
            for (int at = 0; at < text.length(); at += n) {
                String part = text.substring(at, Math.min(text.length(), at + n));
                check.due("bytes " + part, x.type(Check.packed(part), part.length()), at + part.length());
            }
            check.due("items, " + n + " at a time", x.marsh(), 2);
            check.due("bears, " + n + " at a time", x.plank(0, 2), 7);
        }
        PlankNine x = new PlankNine();
        x.type(Check.packed(";2 hsram"), 8);
        check.due("the lowest first would be an item", x.marsh(), -10);
    }

    private static void whatIsAboveDoesNotCome() {
        check.sentence("The lowest n (1 .. 8) bytes of v, the highest of them first");
        String text = "person 1 2;";
        for (int n = 1; n <= 7; n++) {
            PlankNine x = new PlankNine();
            for (int at = 0; at < text.length(); at += n) {
                String part = text.substring(at, Math.min(text.length(), at + n));
                x.type(-1L << 8 * part.length() | Check.packed(part), part.length());
            }
            check.due("with bytes of 255 above " + n, x.marsh(), 1);
            check.due("stride", x.person(0, 1), 2);
        }
        PlankNine x = new PlankNine();
        x.type(Long.MIN_VALUE, 7);
        check.due("seven zeros", x.marsh(), -10);
        x = new PlankNine();
        x.type(Long.MIN_VALUE | 0x20202020202020L, 7);
        check.due("the sign's byte is above seven", x.marsh(), 0);
        x.type(0x2020202020202020L | Long.MIN_VALUE, 8);
        check.due("the sign's byte is the first of eight", x.marsh(), -10);
    }

    private static void lastByteThatFits() {
        check.sentence("They are a text (300 bytes at most)");
        for (int n = 1; n <= 8; n++) {
            int bytes = n;
            check.due("the last " + n, holding(MOST - n).type(0, n), MOST);
            check.changesNothing("one too many of " + n, () -> holding(MOST - bytes + 1), x -> x.type(0, bytes), PlankNine.FULL);
            check.changesNothing("full, and " + n, () -> holding(MOST), x -> x.type(0, bytes), PlankNine.FULL);
        }
        PlankNine x = holding(MOST - 2);
        check.due("three are not cut short", x.type(Check.packed(";;;"), 3), PlankNine.FULL);
        check.due("two still fit", x.type(Check.packed("  "), 2), MOST);
    }

    /** Ends of the text that are all blanks but for one of the people. */
    private static PlankNine holding(int bytes) {
        PlankNine x = new PlankNine();
        Check.say(x, "person 3 2;" + " ".repeat(bytes - 11));
        return x;
    }

    private static void everyByteIsKept() {
        check.sentence("They are a text (300 bytes at most)");
        PlankNine x = new PlankNine();
        Check.say(x, " ".repeat(MOST - 11) + "person 3 2;");
        check.due("an item in the last bytes", x.marsh(), 1);
        check.due("it tells", x.person(0, 0), 3);
        check.due("empty then", x.count(6), 0);
        Check.say(x, " ".repeat(MOST - 1) + "?");
        check.due("a fault at the last byte", x.marsh(), -10 - (MOST - 1));
        x.clear();
        Check.say(x, " ".repeat(MOST - 7) + "marsh 4");
        check.due("a fault behind the last byte", x.marsh(), -10 - MOST);
        x.clear();
        Check.say(x, " ".repeat(MOST - 5) + "marsh");
        check.due("a word in the last bytes", x.marsh(), -10 - MOST);
        x.clear();
        Check.say(x, " ".repeat(MOST - 4) + "mars");
        check.due("a word that is none in the last bytes", x.marsh(), -10 - (MOST - 4));
        x.clear();
        Check.say(x, "marsh " + "9".repeat(MOST - 6));
        check.due("a number to the last byte", x.marsh(), -16);
        x.clear();
        Check.say(x, "m".repeat(MOST));
        check.due("a word of 300", x.marsh(), -10);
        x.clear();
        Check.say(x, " ".repeat(MOST));
        check.due("300 blanks tell nothing", x.marsh(), 0);
    }

    private static void badAheadOfFull() {
        check.sentence("Refused, and nothing changes, the first of these: BAD");
        for (int n : new int[] {0, 9, -1, Integer.MIN_VALUE, Integer.MAX_VALUE}) {
            check.changesNothing("full, and n " + n, () -> holding(MOST), x -> x.type(0, n), PlankNine.BAD);
            check.changesNothing("all but full, and n " + n, () -> holding(MOST - 1), x -> x.type(0, n), PlankNine.BAD);
        }
    }

    private static void clearing() {
        check.sentence("THE TEXT is empty: how many bytes it had.");
        check.changesNothing("nothing there", PlankNine::new, PlankNine::clear, 0);
        PlankNine x = begun();
        check.due("had", x.clear(), 11);
        check.due("has", x.count(6), 0);
        check.due("once more", x.clear(), 0);
        check.due("it tells nothing", x.marsh(), 0);
        x = Check.told("plank 0 1 5;person 3 2;");
        String before = Sight.now(x);
        x.type('?', 1);
        check.due("one byte", x.clear(), 1);
        check.alike("what was told stays", Sight.now(x), before);
    }

    private static void clearingAFullOne() {
        check.sentence("THE TEXT is empty: how many bytes it had.");
        PlankNine x = holding(MOST);
        check.due("refused", x.type(0, 1), PlankNine.FULL);
        check.due("all 300", x.clear(), MOST);
        Check.say(x, " ".repeat(MOST - 11) + "person 1 2;");
        check.due("room for as many again", x.count(6), MOST);
        check.due("what came behind", x.marsh(), 1);
        check.due("weight", x.person(0, 0), 1);
    }
}
