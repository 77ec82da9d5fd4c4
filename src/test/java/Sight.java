/** What calls tell of an object. */
final class Sight {
    private static final int IMAGES = 2;

    private Sight() {
    }

    /** All that can be asked without a change. */
    static String now(PlankNine x) {
        StringBuilder seen = new StringBuilder();
        add(seen, "counts", x, 7, PlankNine::count);
        addTold(seen, x);
        addWorn(seen, x);
        int planks = x.count(1);
        for (int image = 0; image < IMAGES; image++) {
            seen.append(" spent").append(image).append(':');
            for (int k = -1; k < planks; k++) {
                seen.append(' ').append(x.spent(image, k));
            }
            seen.append(" tell ").append(x.tell(image));
        }
        return seen.append(" trace ").append(x.trace()).toString();
    }

    /**
     * All that can be asked, then what the images hold, and at last what the text tells: the object
     * is of no use behind it. 330 calls at most.
     */
    static String whole(PlankNine x) {
        StringBuilder seen = new StringBuilder(now(x));
        for (int image = 0; image < IMAGES; image++) {
            seen.append("\n    back").append(image).append(' ').append(x.back(image));
            addWorn(seen, x);
        }
        seen.append("\n    read ").append(x.marsh());
        add(seen, "counts", x, 7, PlankNine::count);
        addTold(seen, x);
        addWorn(seen, x);
        return seen.toString();
    }

    private interface Question {
        int of(PlankNine x, int i);
    }

    private static void add(StringBuilder seen, String name, PlankNine x, int count, Question question) {
        seen.append(' ').append(name).append(':');
        for (int i = 0; i < count; i++) {
            seen.append(' ').append(question.of(x, i));
        }
    }

    private static void addTold(StringBuilder seen, PlankNine x) {
        add(seen, "ends", x, 2 * x.count(1), (y, i) -> y.plank(i / 2, i % 2));
        add(seen, "people", x, 2 * x.count(2), (y, i) -> y.person(i / 2, i % 2));
        add(seen, "errands", x, 3 * x.count(3), (y, i) -> y.errand(i / 3, i % 3));
    }

    private static void addWorn(StringBuilder seen, PlankNine x) {
        add(seen, "bear", x, x.count(1), (y, i) -> y.plank(i, 2));
        add(seen, "went", x, 2 * x.count(4) + 1, (y, i) -> y.went(i / 2, i % 2));
    }
}
