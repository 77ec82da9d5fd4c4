/** Boundary cases of who goes: promises 8 to 15. */
public final class GoingBoundsTest {
    private static final Check check = new Check("GoingBoundsTest");

    public static void main(String[] args) {
        eachSecondTakesNone();
        bearsNoLessThanItTakes();
        moreThanNothing();
        noPlaceTwice();
        howManyOfAWay();
        noWay();
        placesOfAWay();
        firstWay();
        wentUnderByGoing();
        goingWhereNoneIs();
        steppingOn();
        steppingRefused();
        howManyDays();
        errandByErrand();
        daysWithoutErrands();
        whichWent();
        twentyBySteps();
        twentyByGoing();
        twentyByDays();
        freezing();
        carting();
        exchanging();
        exchangingRefused();
        check.finish();
    }

    /** A marsh of six in a row: plank i joins i and i + 1. */
    private static PlankNine row(int weight, int stride, int... bears) {
        StringBuilder text = new StringBuilder("marsh 6;person " + weight + " " + stride + ";");
        for (int i = 0; i < bears.length; i++) {
            text.append("plank ").append(i).append(' ').append(i + 1).append(' ').append(bears[i]).append(';');
        }
        return Check.told(text.toString());
    }

    private static int takes(int weight, int stride, int i) {
        return stride == 2 && i % 2 == 0 ? 0 : weight;
    }

    // ---- ways

    private static void eachSecondTakesNone() {
        check.sentence("The i-th PLANK of it (from 1) takes WEIGHT; with STRIDE 2 each second one (the 2nd, 4th) takes none.");
        for (int weight = 1; weight <= 3; weight++) {
            for (int stride = 1; stride <= 2; stride++) {
                for (int length = 1; length <= 5; length++) {
                    PlankNine there = row(weight, stride, 9, 9, 9, 9, 9);
                    PlankNine back = row(weight, stride, 9, 9, 9, 9, 9);
                    check.due("there", there.go(0, 0, length), 0);
                    check.due("back", back.go(0, 5, 5 - length), 0);
                    for (int i = 1; i <= 5; i++) {
                        int left = i <= length ? 9 - takes(weight, stride, i) : 9;
                        check.due("the " + i + "-th of " + length, there.plank(i - 1, 2), left);
                        check.due("the " + i + "-th of " + length + " back", back.plank(5 - i, 2), left);
                    }
                }
            }
        }
    }

    private static void bearsNoLessThanItTakes() {
        check.sentence("It BEARS it, if each of its PLANKS bears more than 0, and no less than it takes.");
        for (int weight = 1; weight <= 3; weight++) {
            for (int stride = 1; stride <= 2; stride++) {
                for (int i = 1; i <= 5; i++) {
                    int[] bears = {9, 9, 9, 9, 9};
                    int least = Math.max(1, takes(weight, stride, i));
                    bears[i - 1] = least;
                    check.due("just enough on the " + i + "-th", row(weight, stride, bears).way(0, 0, 5, -1), 5);
                    bears[i - 1] = least - 1;
                    PlankNine x = row(weight, stride, bears);
                    check.due("one less on the " + i + "-th", x.way(0, 0, 5, -1), PlankNine.NONE);
                    check.due("so it can't be gone", x.go(0, 0, 5), PlankNine.STATE);
                    if (i > 1) {
                        check.due("up to it", x.way(0, 0, i - 1, -1), i - 1);
                    }
                }
            }
        }
    }

    private static void moreThanNothing() {
        check.sentence("each of its PLANKS bears more than 0");
        check.due("leapt over, but under", row(3, 2, 9, 0).way(0, 0, 2, -1), PlankNine.NONE);
        check.due("leapt over, bears 1", row(3, 2, 9, 1).way(0, 0, 2, -1), 2);
        check.due("the 4th under", row(1, 2, 9, 9, 9, 0).way(0, 0, 4, -1), PlankNine.NONE);
        check.due("the 4th bears 1", row(3, 2, 9, 1, 9, 1).way(0, 0, 4, -1), 4);
    }

    private static void noPlaceTwice() {
        check.sentence("PLANKS, each once, none of its PLACES twice.");
        // A round of three ahead of the weak plank would make it the 4th, which takes none.
        PlankNine x = Check.told("marsh 5;plank 0 1 9;plank 1 2 9;plank 2 0 9;plank 0 3 1;person 2 2;");
        check.due("not back to where it starts", x.way(0, 0, 3, -1), PlankNine.NONE);
        check.due("nor gone so", x.go(0, 0, 3), PlankNine.STATE);
        check.due("from another place it is the 2nd", x.way(0, 1, 3, -1), 2);
        x = Check.told("marsh 6;plank 0 1 9;plank 1 2 9;plank 2 3 9;plank 3 1 9;plank 1 4 9;plank 4 5 1;person 2 2;");
        check.due("not back to one on the way", x.way(0, 0, 5, -1), PlankNine.NONE);
        x = Check.told("marsh 6;plank 0 1 9;plank 1 2 9;plank 2 3 1;plank 3 4 9;plank 4 2 9;plank 2 5 1;person 2 2;");
        check.due("no round of use", x.way(0, 0, 5, -1), PlankNine.NONE);
        // The goal is a place, too: no way goes by it and comes back.
        x = Check.told("plank 0 1 1;plank 0 2 9;plank 2 1 9;person 2 1;");
        check.due("round about", x.way(0, 0, 1, -1), 2);
    }

    private static void howManyOfAWay() {
        check.sentence("The FIRST WAY: how many PLANKS (i = -1), the i-th (-5: not so many); NONE.");
        for (int length = 1; length <= 5; length++) {
            int to = length;
            PlankNine x = row(1, 1, 9, 9, 9, 9, 9);
            check.due("how many", x.way(0, 0, length, -1), length);
            for (int i = 0; i < length; i++) {
                check.due("the " + i + "-th", x.way(0, 0, length, i), i);
                check.due("the " + i + "-th back", x.way(0, length, 0, i), length - 1 - i);
            }
            for (int i : new int[] {length, length + 1, 5, 6, 9, Integer.MAX_VALUE}) {
                check.due("not so many: " + i, x.way(0, 0, length, i), -5);
            }
            for (int i : new int[] {-2, -3, -5, Integer.MIN_VALUE}) {
                check.changesNothing("i " + i, () -> row(1, 1, 9, 9, 9, 9, 9), y -> y.way(0, 0, to, i), PlankNine.BAD);
            }
        }
    }

    private static void noWay() {
        check.sentence("the i-th (-5: not so many); NONE.");
        PlankNine x = row(2, 1, 9, 1);
        for (int i : new int[] {-1, 0, 1, 2, 5, Integer.MAX_VALUE}) {
            check.due("not borne, i " + i, x.way(0, 0, 2, i), PlankNine.NONE);
            check.due("not joined, i " + i, x.way(0, 0, 5, i), PlankNine.NONE);
        }
        check.due("BAD ahead of NONE", x.way(0, 0, 5, -2), PlankNine.BAD);
        check.due("no planks at all", Check.told("person 1 1;").way(0, 0, 3, -1), PlankNine.NONE);
    }

    private static void placesOfAWay() {
        check.sentence("BAD (a, b unlike).");
        for (int n = 2; n <= 6; n++) {
            PlankNine x = Check.told("marsh " + n + ";plank 0 " + (n - 1) + " 9;person 1 1;");
            check.due("first to last", x.way(0, 0, n - 1, 0), 0);
            check.due("last to first", x.way(0, n - 1, 0, 0), 0);
            for (int a : Check.beyond(0, n - 1)) {
                check.due("from " + a, x.way(0, a, 0, -1), PlankNine.BAD);
                check.due("to " + a, x.way(0, 0, a, -1), PlankNine.BAD);
                check.due("go from " + a, x.go(0, a, 0), PlankNine.BAD);
                check.due("go to " + a, x.go(0, 0, a), PlankNine.BAD);
            }
            for (int a = 0; a < n; a++) {
                check.due("from " + a + " to itself", x.way(0, a, a, -1), PlankNine.BAD);
                check.due("go from " + a + " to itself", x.go(0, a, a), PlankNine.BAD);
            }
            for (int p : Check.beyond(0, 0)) {
                check.due("nobody " + p, x.way(p, 0, 1, -1), PlankNine.BAD);
                check.due("go: nobody " + p, x.go(p, 0, 1), PlankNine.BAD);
            }
            check.due("nothing is changed", x.plank(0, 2), 9);
        }
    }

    private static void firstWay() {
        check.sentence("FIRST: of WAYS that are BORNE one of the fewest PLANKS, of these the first by its PLANKS' numbers (the first that differs).");
        PlankNine x = Check.told("plank 0 1 9;plank 1 3 9;plank 0 3 9;person 1 1;");
        check.due("the fewest, though numbers are higher", x.way(0, 0, 3, 0), 2);
        x = Check.told("plank 0 1 3;".repeat(9) + "person 3 1;");
        for (int k = 0; k < 9; k++) {
            check.due("the lowest that bears", x.way(0, 0, 1, 0), k);
            check.due("goes under", x.go(0, 0, 1), 1);
        }
        check.due("none is left", x.way(0, 0, 1, 0), PlankNine.NONE);
        // 0 8 against 1 2: the first that differs tells, not the sum nor the last.
        x = Check.told("plank 0 1 9;plank 0 2 9;plank 2 3 9;" + "plank 0 1 0;".repeat(5) + "plank 1 3 9;person 1 1;");
        check.due("first", x.way(0, 0, 3, 0), 0);
        check.due("second", x.way(0, 0, 3, 1), 8);
        // 0 1 and 0 2, then 0 2 alone.
        x = Check.told("plank 0 1 9;plank 1 3 1;plank 1 3 9;person 1 1;");
        check.due("alike up to the second", x.way(0, 0, 3, 1), 1);
        x.steps(0, 1);
        check.due("the other one then", x.way(0, 0, 3, 1), 2);
    }

    // ---- going, stepping, days

    private static void wentUnderByGoing() {
        check.sentence("One goes by the FIRST WAY: how many PLANKS WENT under.");
        check.sentence("a PLANK that comes to 0 WENT under");
        for (int weight = 1; weight <= 3; weight++) {
            for (int under = 0; under <= 5; under++) {
                int[] bears = new int[5];
                for (int i = 0; i < 5; i++) {
                    bears[i] = i < under ? weight : weight + 1;
                }
                PlankNine x = row(weight, 1, bears);
                check.due("so many WENT", x.go(0, 0, 5), under);
                check.due("so many are known", x.count(4), under);
                check.due("what is left", x.count(5), 5 - under);
                for (int i = 0; i < under; i++) {
                    check.due("in the order of the way", x.went(i, 0), i);
                }
                check.due("no more", x.went(under, 0), -5);
            }
        }
        PlankNine x = row(1, 2, 1, 1, 1, 1, 1);
        check.due("what takes none does not go under", x.go(0, 5, 0), 3);
        check.due("first", x.went(0, 0), 4);
        check.due("then", x.went(1, 0), 2);
        check.due("last", x.went(2, 0), 0);
    }

    private static void goingWhereNoneIs() {
        check.sentence("BAD; STATE: there is none.");
        check.changesNothing("not borne", () -> row(2, 1, 9, 1), x -> x.go(0, 0, 2), PlankNine.STATE);
        check.changesNothing("not borne back", () -> row(2, 1, 9, 1), x -> x.go(0, 2, 0), PlankNine.STATE);
        check.changesNothing("under", () -> row(2, 2, 9, 0), x -> x.go(0, 0, 2), PlankNine.STATE);
        check.changesNothing("not joined", () -> row(2, 1, 9, 9), x -> x.go(0, 0, 5), PlankNine.STATE);
        check.changesNothing("BAD ahead of STATE: p", () -> row(2, 1, 9, 1), x -> x.go(1, 0, 2), PlankNine.BAD);
        check.changesNothing("BAD ahead of STATE: b", () -> row(2, 1, 9, 1), x -> x.go(0, 5, 6), PlankNine.BAD);
        check.changesNothing("BAD ahead of STATE: alike", () -> row(2, 1, 9, 1), x -> x.go(0, 5, 5), PlankNine.BAD);
    }

    private static void steppingOn() {
        check.sentence("One steps on a PLANK alone: what it BEARS then.");
        check.sentence("STATE: it does not BEAR its WEIGHT.");
        for (int weight = 1; weight <= 3; weight++) {
            for (int stride = 1; stride <= 2; stride++) {
                for (int bears = 0; bears <= 9; bears++) {
                    int w = weight;
                    int s = stride;
                    int b = bears;
                    if (bears < weight) {
                        check.changesNothing(weight + " on " + bears, () -> row(w, s, b), x -> x.steps(0, 0), PlankNine.STATE);
                        continue;
                    }
                    PlankNine x = row(weight, stride, bears);
                    check.due(weight + " on " + bears, x.steps(0, 0), bears - weight);
                    check.due("it BEARS then", x.plank(0, 2), bears - weight);
                    check.due("WENT, if it came to 0", x.count(4), bears == weight ? 1 : 0);
                    check.due("which", x.went(0, 0), bears == weight ? 0 : -5);
                }
            }
        }
    }

    private static void steppingRefused() {
        check.sentence("BAD; STATE: it does not BEAR its WEIGHT.");
        for (int p : Check.beyond(0, 0)) {
            check.changesNothing("p " + p, () -> row(1, 1, 9, 0), x -> x.steps(p, 0), PlankNine.BAD);
            check.changesNothing("BAD ahead of STATE, p " + p, () -> row(1, 1, 9, 0), x -> x.steps(p, 1), PlankNine.BAD);
        }
        for (int k : Check.beyond(0, 1)) {
            check.changesNothing("k " + k, () -> row(1, 1, 9, 0), x -> x.steps(0, k), PlankNine.BAD);
        }
        check.changesNothing("nobody", () -> Check.told("plank 0 1 5;"), x -> x.steps(0, 0), PlankNine.BAD);
        check.changesNothing("no planks", () -> Check.told("person 1 1;"), x -> x.steps(0, 0), PlankNine.BAD);
    }

    private static void howManyDays() {
        check.sentence("DAYS n (1 .. 9)");
        String text = "plank 0 1 9;person 1 1;errand 0 0 1;";
        for (int n = 1; n <= 9; n++) {
            PlankNine x = Check.told(text);
            check.due("days " + n, x.days(n), 0);
            check.due("as many steps", x.plank(0, 2), 9 - n);
            check.due("of nine more", x.days(9), n);
        }
        for (int n : Check.beyond(1, 9)) {
            check.changesNothing("n " + n, () -> Check.told(text), x -> x.days(n), PlankNine.BAD);
        }
        PlankNine x = Check.told("plank 0 1 0;person 1 1;" + "errand 0 0 1;".repeat(3));
        check.due("none at all", x.days(9), 27);
    }

    private static void errandByErrand() {
        check.sentence("n times ERRAND by ERRAND: by the FIRST WAY, as PLANKS are then; how often there was none.");
        PlankNine x = Check.told("plank 0 1 2;person 1 1;person 1 1;errand 0 0 1;errand 1 0 1;");
        check.due("the second day has none", x.days(2), 2);
        check.due("both went on the first one", x.went(0, 1), 1);
        // What one errand takes, the one behind it does not find; a light one behind it still goes.
        x = Check.told("plank 0 1 4;person 3 1;person 1 1;errand 0 0 1;errand 0 1 0;errand 1 0 1;");
        check.due("the one in the middle", x.days(1), 1);
        check.due("all is used", x.plank(0, 2), 0);
        check.due("by the light one", x.went(0, 1), 1);
        check.due("none at all", x.days(1), 3);
    }

    private static void daysWithoutErrands() {
        check.sentence("how often there was none");
        check.changesNothing("no errands", () -> row(1, 1, 9), x -> x.days(9), 0);
        check.changesNothing("nothing there", PlankNine::new, x -> x.days(1), 0);
        check.changesNothing("nothing there, n 0", PlankNine::new, x -> x.days(0), PlankNine.BAD);
        check.changesNothing("no way for any", () -> Check.told("plank 0 1 2;person 3 1;errand 0 0 1;errand 0 2 3;"),
            x -> x.days(9), 18);
    }

    // ---- which went

    private static void whichWent() {
        check.sentence("The i-th (from 0) that WENT: the PLANK (what = 0), with whom (1); -5: not so many. BAD.");
        PlankNine x = Check.told("plank 0 1 1;plank 1 2 3;person 1 1;person 3 1;");
        check.due("none yet", x.went(0, 0), -5);
        check.due("none yet, with whom", x.went(0, 1), -5);
        x.steps(1, 1);
        x.steps(0, 0);
        check.due("the first", x.went(0, 0), 1);
        check.due("with whom", x.went(0, 1), 1);
        check.due("the last", x.went(1, 0), 0);
        check.due("with whom", x.went(1, 1), 0);
        for (int i : new int[] {2, 3, 19, 20, 21, Integer.MAX_VALUE}) {
            check.due("not so many: " + i, x.went(i, 0), -5);
            check.due("not so many, with whom: " + i, x.went(i, 1), -5);
        }
        for (int i : new int[] {-1, -2, -5, Integer.MIN_VALUE}) {
            check.due("i " + i, x.went(i, 0), PlankNine.BAD);
            check.due("with whom, i " + i, x.went(i, 1), PlankNine.BAD);
        }
        for (int what : Check.beyond(0, 1)) {
            check.due("what " + what, x.went(0, what), PlankNine.BAD);
            check.due("BAD ahead of not so many", x.went(2, what), PlankNine.BAD);
        }
    }

    /** Plank 0 has gone under so many times, under the first of two; all three planks bear 3. */
    private static PlankNine gone(int times) {
        PlankNine x = Check.told("plank 0 1 3;plank 1 2 3;plank 2 3 3;person 3 1;person 3 1;errand 1 0 3;");
        for (int time = 0; time < times; time++) {
            check.due("under", x.steps(0, 0), 0);
            x.cart(0);
            x.steps(0, 0);
            x.steps(0, 0);
        }
        check.due("under so many times", x.count(4), times);
        return x;
    }

    private static void twentyBySteps() {
        check.sentence("known by order, with whom: 20 at most; what is beyond is not known");
        PlankNine x = gone(19);
        check.due("19", x.went(18, 0), 0);
        check.due("no 20th", x.went(19, 0), -5);
        check.due("one more", x.steps(1, 2), 0);
        check.due("20", x.count(4), 20);
        check.due("the 20th", x.went(19, 0), 2);
        check.due("with whom", x.went(19, 1), 1);
        check.due("one beyond", x.steps(1, 1), 0);
        check.due("it is under", x.plank(1, 2), 0);
        check.due("still 20", x.count(4), 20);
        check.due("the 20th stays", x.went(19, 0), 2);
        check.due("the first stays", x.went(0, 1), 0);
        check.due("the 21st is not known", x.went(20, 0), -5);
        check.due("nor with whom", x.went(20, 1), -5);
    }

    private static void twentyByGoing() {
        check.sentence("20 at most; what is beyond is not known");
        PlankNine x = gone(18);
        check.due("three WENT under", x.go(1, 3, 0), 3);
        check.due("two of them known", x.count(4), 20);
        check.due("the 19th", x.went(18, 0), 2);
        check.due("the 20th", x.went(19, 0), 1);
        check.due("the 21st", x.went(20, 0), -5);
        x.cart(0);
        x.steps(1, 0);
        x.steps(1, 0);
        check.due("none of them known, but one WENT under", x.go(1, 0, 1), 1);
        check.due("still 20", x.count(4), 20);
        check.due("all are under", x.keep(0), 0);
    }

    private static void twentyByDays() {
        check.sentence("20 at most; what is beyond is not known");
        PlankNine x = gone(18);
        check.due("a day", x.days(1), 0);
        check.due("20 known", x.count(4), 20);
        check.due("the 19th", x.went(18, 0), 0);
        check.due("the 20th", x.went(19, 0), 1);
        check.due("all are under", x.keep(0), 0);
        check.due("another day", x.days(1), 1);
    }

    // ---- frost, cart, exchange

    private static PlankNine oneOfEach() {
        StringBuilder text = new StringBuilder("person 1 1;");
        for (int bears = 0; bears <= 8; bears++) {
            text.append("plank 0 1 ").append(bears).append(';');
        }
        return Check.told(text.toString());
    }

    private static void freezing() {
        check.sentence("FROST: each PLANK that BEARS 1 to 8 BEARS one more.");
        PlankNine x = oneOfEach();
        check.due("1 to 8", x.frost(), 8);
        check.due("0 stays under", x.plank(0, 2), 0);
        for (int k = 1; k <= 8; k++) {
            check.due("one more", x.plank(k, 2), k + 1);
        }
        for (int more = 7; more >= 0; more--) {
            check.due("those below 9", x.frost(), more);
        }
        check.due("none beyond 9", x.count(5), 72);
        x = Check.told("plank 0 1 1;" + "plank 0 1 0;".repeat(7) + "plank 0 1 8;");
        check.due("the first and the last", x.frost(), 2);
        check.due("the first", x.plank(0, 2), 2);
        check.due("the last", x.plank(8, 2), 9);
        check.changesNothing("all bear 9", () -> row(1, 1, 9, 9, 9), PlankNine::frost, 0);
        check.changesNothing("all are under", () -> row(1, 1, 0, 0), PlankNine::frost, 0);
        check.changesNothing("no planks", PlankNine::new, PlankNine::frost, 0);
    }

    private static void carting() {
        check.sentence("CART: what the PLANK BORE. BAD.");
        check.sentence("CART: a PLANK BEARS 9.");
        PlankNine x = oneOfEach();
        for (int k = 0; k <= 8; k++) {
            check.due("BORE", x.cart(k), k);
            check.due("BEARS", x.plank(k, 2), 9);
            check.due("a new one BORE 9", x.cart(k), 9);
        }
        check.due("none WENT", x.count(4), 0);
        x = row(1, 1, 1, 1);
        x.steps(0, 0);
        check.due("one that WENT", x.cart(0), 0);
        check.due("it WENT all the same", x.went(0, 0), 0);
        for (int planks = 0; planks <= 5; planks++) {
            int[] bears = new int[planks];
            for (int k : Check.beyond(0, planks - 1)) {
                check.changesNothing("k " + k + " of " + planks, () -> row(1, 1, bears), y -> y.cart(k), PlankNine.BAD);
            }
        }
        for (int k : Check.beyond(0, 8)) {
            check.changesNothing("k " + k + " of nine", GoingBoundsTest::oneOfEach, y -> y.cart(k), PlankNine.BAD);
        }
    }

    private static void exchanging() {
        check.sentence("EXCHANGED: what two PLANKS BEAR.");
        for (int k = 0; k <= 8; k++) {
            for (int l = 0; l <= 8; l++) {
                if (k == l) {
                    continue;
                }
                PlankNine x = oneOfEach();
                check.due("exchanged", x.exchange(k, l), 1);
                for (int i = 0; i <= 8; i++) {
                    check.due("BEARS", x.plank(i, 2), i == k ? l : i == l ? k : i);
                }
                check.due("none WENT", x.count(4), 0);
                check.due("back", x.exchange(l, k), 1);
                check.alike("as it was", Sight.now(x), Sight.now(oneOfEach()));
            }
        }
        PlankNine x = row(1, 1, 4, 7);
        x.exchange(0, 1);
        check.due("its PLACES stay", x.plank(1, 0), 1);
        check.due("both of them", x.plank(1, 1), 2);
    }

    private static void exchangingRefused() {
        check.sentence("EXCHANGED: 1. BAD (one and the same, too).");
        for (int k = 0; k <= 8; k++) {
            int same = k;
            check.changesNothing("the same", GoingBoundsTest::oneOfEach, x -> x.exchange(same, same), PlankNine.BAD);
        }
        for (int k : Check.beyond(0, 8)) {
            check.changesNothing("first " + k, GoingBoundsTest::oneOfEach, x -> x.exchange(k, 0), PlankNine.BAD);
            check.changesNothing("second " + k, GoingBoundsTest::oneOfEach, x -> x.exchange(8, k), PlankNine.BAD);
            check.changesNothing("both " + k, GoingBoundsTest::oneOfEach, x -> x.exchange(k, k), PlankNine.BAD);
        }
        for (int k : Check.beyond(0, 1)) {
            check.changesNothing("of two, first " + k, () -> row(1, 1, 4, 7), x -> x.exchange(k, 0), PlankNine.BAD);
            check.changesNothing("of two, second " + k, () -> row(1, 1, 4, 7), x -> x.exchange(1, k), PlankNine.BAD);
        }
    }
}
