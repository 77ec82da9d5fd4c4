/** Promises 21 to 25: rate, keep, back, count, trace. */
public final class KindsTest {
    private static final Check check = new Check("KindsTest");

    public static void main(String[] args) {
        rates();
        ratesFollowWhatIsNow();
        ratesRefused();
        traces();
        keepsAndBack();
        backOfWhatWent();
        imagesHoldNothingElse();
        imagesRefused();
        counts();
        constants();
        check.finish();
    }

    private static void rates() {
        PlankNine x = Check.told("plank 0 1 1;plank 1 2 2;plank 2 3 3;plank 0 3 0;person 2 1;person 1 2;person 3 2;");
        check.due("person", x.rate(0, 0), 2);
        check.due("farmer: 2 and 2 planks", x.rate(1, 0), 4);
        check.due("leaper: 2 less 1", x.rate(2, 0), 1);
        check.due("carter", x.rate(3, 0), 8);
        check.due("thief", x.rate(4, 0), 1);
        check.due("bride", x.rate(5, 0), 2);
        check.due("farmer 1: 1 and 3 planks", x.rate(1, 1), 4);
        check.due("leaper 1: below 0", x.rate(2, 1), -1);
        check.due("thief 1", x.rate(4, 1), 0);
        check.due("farmer 2: 3 and 1 plank", x.rate(1, 2), 4);
        check.due("thief 2: 3 less 2 and 2", x.rate(4, 2), 3);
    }

    private static void ratesFollowWhatIsNow() {
        PlankNine x = Check.told("plank 0 1 2;plank 1 2 2;person 2 1;");
        check.due("farmer", x.rate(1, 0), 4);
        x.keep(0);
        x.steps(0, 0);
        check.due("farmer, one less", x.rate(1, 0), 3);
        check.due("carter", x.rate(3, 0), 6);
        check.due("bride, one went", x.rate(5, 0), 3);
        x.back(0);
        check.due("bride, none went", x.rate(5, 0), 2);
        for (int time = 0; time < 25; time++) {
            x.cart(0);
            for (int step = 0; step < 4; step++) {
                x.steps(0, 0);
            }
            x.frost();
            x.steps(0, 0);
        }
        check.due("bride, known ones only", x.rate(5, 0), 22);
    }

    private static void ratesRefused() {
        PlankNine x = Check.told("person 2 1;");
        check.due("kind 6", x.rate(6, 0), PlankNine.NO);
        check.due("kind -1", x.rate(-1, 0), PlankNine.NO);
        check.due("nobody 1", x.rate(0, 1), PlankNine.NO);
        check.due("nobody -1", x.rate(5, -1), PlankNine.NO);
        check.due("nobody at all", new PlankNine().rate(0, 0), PlankNine.NO);
        check.due("no body was asked", x.trace(), 0);
    }

    private static void traces() {
        int[] due = {1, 11, 101, 1011, 10101, 100001};
        for (int kind = 0; kind < due.length; kind++) {
            PlankNine x = Check.told("person 2 1;");
            x.rate(kind, 0);
            check.due("trace of " + kind, x.trace(), due[kind]);
            x.rate(kind, 0);
            check.due("trace of twice " + kind, x.trace(), 2 * due[kind]);
            check.due("trace asks nobody", x.trace(), 2 * due[kind]);
        }
        PlankNine x = Check.told("person 2 1;");
        for (int kind = 0; kind < 6; kind++) {
            x.rate(kind, 0);
        }
        x.keep(0);
        x.back(0);
        check.due("of all; no part of an image", x.trace(), 111226);
    }

    private static void keepsAndBack() {
        PlankNine x = Check.told("plank 0 1 2;plank 1 2 0;plank 2 3 4;person 2 1;");
        check.due("two are not under", x.keep(0), 2);
        x.steps(0, 0);
        check.due("one is not under", x.keep(1), 1);
        x.cart(0);
        x.cart(1);
        x.cart(2);
        check.due("back to 1", x.back(1), 1);
        check.due("0 under", x.plank(0, 2), 0);
        check.due("2", x.plank(2, 2), 4);
        check.due("back to 0", x.back(0), 2);
        check.due("0", x.plank(0, 2), 2);
        check.due("back to 1 again", x.back(1), 1);
        check.due("kept anew", x.keep(0), 1);
        x.cart(0);
        check.due("back to the newer", x.back(0), 1);
        check.due("no planks", new PlankNine().keep(0), 0);
    }

    private static void backOfWhatWent() {
        PlankNine x = Check.told("plank 0 1 1;plank 1 2 1;plank 2 3 1;person 1 1;person 1 1;");
        x.steps(1, 2);
        x.keep(0);
        x.steps(0, 0);
        x.keep(1);
        x.back(0);
        check.due("one went", x.count(4), 1);
        check.due("no second", x.went(1, 0), -5);
        x.steps(0, 1);
        check.due("another second", x.went(1, 0), 1);
        x.back(1);
        check.due("the second of image 1", x.went(1, 0), 0);
        check.due("with", x.went(1, 1), 0);
        check.due("the first", x.went(0, 0), 2);
        check.due("the first with", x.went(0, 1), 1);
        x.back(0);
        x.steps(1, 0);
        x.back(1);
        check.due("what comes behind changes no image", x.went(1, 1), 0);
    }

    private static void imagesHoldNothingElse() {
        PlankNine x = Check.told("plank 0 1 1;person 1 1;");
        x.keep(0);
        Check.say(x, "plank");
        x.rate(0, 0);
        x.back(0);
        check.due("THE TEXT stays", x.count(6), 5);
        check.due("THE TRACE stays", x.trace(), 1);
    }

    private static void imagesRefused() {
        PlankNine x = Check.told("plank 0 1 1;person 1 1;");
        check.due("none was kept", x.back(0), PlankNine.STATE);
        check.due("keep 2", x.keep(2), PlankNine.BAD);
        check.due("keep -1", x.keep(-1), PlankNine.BAD);
        check.due("back 2", x.back(2), PlankNine.BAD);
        check.due("back -1", x.back(-1), PlankNine.BAD);
        x.keep(1);
        check.due("1 is not 0", x.back(0), PlankNine.STATE);
        check.due("1", x.back(1), 1);
    }

    private static void counts() {
        PlankNine x = Check.told("marsh 5;plank 0 1 4;plank 0 2 1;plank 0 4 7;person 1 1;person 3 2;errand 1 0 4;");
        Check.say(x, "abc");
        x.steps(0, 1);
        check.due("places", x.count(0), 5);
        check.due("planks", x.count(1), 3);
        check.due("people", x.count(2), 2);
        check.due("errands", x.count(3), 1);
        check.due("went", x.count(4), 1);
        check.due("borne", x.count(5), 11);
        check.due("bytes", x.count(6), 3);
        check.due("what 7", x.count(7), PlankNine.BAD);
        check.due("what -1", x.count(-1), PlankNine.BAD);
    }

    private static void constants() {
        check.due("BAD", PlankNine.BAD, -1);
        check.due("STATE", PlankNine.STATE, -2);
        check.due("FULL", PlankNine.FULL, -3);
        check.due("NONE", PlankNine.NONE, -9);
        check.due("NO", PlankNine.NO, -1000000);
    }
}
