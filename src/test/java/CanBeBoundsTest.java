import java.math.BigInteger;

/** Boundary cases of what can be: promises 16 to 20. */
public final class CanBeBoundsTest {
    private static final Check check = new Check("CanBeBoundsTest");

    public static void main(String[] args) {
        allOrNone();
        nothingToDo();
        oneStepTooFew();
        oneBehindAnother();
        mostThatIsLeft();
        allOverNinePlanks();
        noPlaceTwice();
        whatOfAll();
        weightGoesInto();
        mostOften();
        oftenApart();
        oftenWhereNothingBears();
        cutWithLeastBits();
        cutOfOneSide();
        oftenRefused();
        fewerThanTwoPlanks();
        firstOfSeveralPairs();
        worseByEachPair();
        betterRefused();
        spentMoreIsNothing();
        spentByAll();
        spentRefused();
        waysByWeights();
        waysMultiplied();
        waysWrap();
        waysThatCanBeNone();
        waysOfNobody();
        tellRefused();
        nothingIsChanged();
        check.finish();
    }

    /** So many planks from 0 to 1, all bearing as much, one of the people. */
    private static PlankNine beside(int planks, int bears, int weight) {
        return Check.told("person " + weight + " 1;" + ("plank 0 1 " + bears + ";").repeat(planks));
    }

    // ---- all

    private static void allOrNone() {
        check.sentence("ALL (what = 0: 1, 0), REST (1; NONE). BAD.");
        for (int weight = 1; weight <= 3; weight++) {
            for (int bears = 0; bears <= 9; bears++) {
                PlankNine x = Check.told("plank 0 1 " + bears + ";person " + weight + " 1;errand 0 1 0;");
                check.due(weight + " on " + bears, x.all(0), bears >= weight ? 1 : 0);
                check.due(weight + " on " + bears + ", left", x.all(1), bears >= weight ? bears - weight : PlankNine.NONE);
            }
        }
        PlankNine x = Check.told("plank 0 1 3;person 3 1;errand 0 0 1;");
        check.due("done with nothing left", x.all(0), 1);
        check.due("0 is not NONE", x.all(1), 0);
    }

    private static void nothingToDo() {
        check.sentence("whether each ERRAND can be done once");
        check.due("no errands, no planks", new PlankNine().all(0), 1);
        check.due("nothing is left of nothing", new PlankNine().all(1), 0);
        check.due("no errands", beside(9, 9, 1).all(0), 1);
        check.due("all is left", beside(9, 9, 1).all(1), 81);
        check.due("no errands, all under", beside(9, 0, 1).all(0), 1);
        check.due("nothing is left", beside(9, 0, 1).all(1), 0);
        PlankNine x = Check.told("person 1 1;errand 0 0 1;");
        check.due("an errand, no planks", x.all(0), 0);
        check.due("an errand, no planks: NONE", x.all(1), PlankNine.NONE);
    }

    private static void oneStepTooFew() {
        check.sentence("whether each ERRAND can be done once, one behind another, by some WAYS that are BORNE then");
        for (int errands = 1; errands <= 3; errands++) {
            String run = "person 3 1;" + "errand 0 0 1;".repeat(errands);
            PlankNine x = Check.told("plank 0 1 " + 3 * errands + ";" + run);
            check.due("just enough for " + errands, x.all(0), 1);
            check.due("just enough, left", x.all(1), 0);
            x = Check.told("plank 0 1 " + (3 * errands - 1) + ";" + run);
            check.due("one too few for " + errands, x.all(0), 0);
            check.due("one too few: NONE", x.all(1), PlankNine.NONE);
        }
        // The last of three can be done alone, but not behind the two others.
        PlankNine x = Check.told("plank 0 1 2;plank 2 3 9;person 1 1;errand 0 0 1;errand 0 1 0;errand 0 0 1;");
        check.due("two of three", x.all(0), 0);
    }

    private static void oneBehindAnother() {
        check.sentence("one behind another, by some WAYS that are BORNE then");
        String planks = "marsh 3;plank 0 1 9;plank 1 2 1;person 3 2;person 1 1;";
        check.due("the leaper ahead", Check.told(planks + "errand 0 0 2;errand 1 1 2;").all(0), 1);
        check.due("the leaper behind finds it under", Check.told(planks + "errand 1 1 2;errand 0 0 2;").all(0), 0);
        // By FIRST WAYS it could not be done; by some it can.
        PlankNine x = Check.told("plank 0 1 1;plank 0 2 1;plank 2 1 1;plank 1 3 1;person 1 1;errand 0 0 1;errand 0 0 3;");
        check.due("the first one goes round", x.all(0), 1);
        check.due("by FIRST WAYS", x.days(1), 0);
        x = Check.told("plank 0 1 3;plank 0 2 9;plank 2 1 2;person 1 1;person 3 1;errand 0 0 1;errand 1 0 1;");
        check.due("the light one goes round", x.all(0), 1);
        check.due("the light one goes round, left", x.all(1), 9);
        check.due("by FIRST WAYS the heavy one has none", x.days(1), 1);
    }

    private static void mostThatIsLeft() {
        check.sentence("REST: of all rows of WAYS the most that all PLANKS together BEAR then; NONE.");
        PlankNine x = Check.told("plank 0 1 9;plank 1 2 9;plank 0 2 9;person 3 1;errand 0 0 2;");
        check.due("the way of one", x.all(1), 24);
        x.steps(0, 2);
        x.steps(0, 2);
        check.due("just borne", x.all(1), 18);
        x.steps(0, 2);
        check.due("round about", x.all(1), 12);
        x = Check.told("marsh 6;" + "plank 0 1 9;plank 1 2 9;plank 2 3 9;plank 3 4 9;plank 4 5 9;" + "person 1 2;"
            + "errand 0 0 5;".repeat(3));
        check.due("five planks, three of them taken, three times", x.all(1), 36);
    }

    private static void allOverNinePlanks() {
        check.sentence("by some WAYS that are BORNE then");
        String errands = "person 1 1;" + "errand 0 0 1;".repeat(3);
        PlankNine x = Check.told("plank 2 3 9;".repeat(8) + "plank 0 1 3;" + errands);
        check.due("by the ninth", x.all(0), 1);
        check.due("by the ninth, left", x.all(1), 72);
        x = Check.told("plank 2 3 9;".repeat(8) + "plank 0 1 2;" + errands);
        check.due("the ninth bears two", x.all(0), 0);
        x = Check.told("plank 0 1 1;".repeat(3) + "plank 0 1 0;".repeat(6) + errands);
        check.due("by the first three", x.all(1), 0);
    }

    private static void noPlaceTwice() {
        check.sentence("PLANKS, each once, none of its PLACES twice.");
        // A round of three from the start would make the weak plank the 4th, which takes none.
        PlankNine x = Check.told("marsh 5;plank 0 1 9;plank 1 2 9;plank 2 0 9;plank 0 3 1;person 2 2;errand 0 0 3;");
        check.due("not back to where it starts", x.all(0), 0);
        check.due("NONE", x.all(1), PlankNine.NONE);
    }

    private static void whatOfAll() {
        check.sentence("REST (1; NONE). BAD.");
        String text = "plank 0 1 9;person 1 1;errand 0 0 1;";
        for (int what : Check.beyond(0, 1)) {
            check.changesNothing("what " + what, () -> Check.told(text), x -> x.all(what), PlankNine.BAD);
            check.changesNothing("BAD ahead of NONE", () -> Check.told("person 1 1;errand 0 0 1;"), x -> x.all(what), PlankNine.BAD);
        }
    }

    // ---- often

    private static void weightGoesInto() {
        check.sentence("each PLANK as often as WEIGHT goes into what it BEARS");
        for (int weight = 1; weight <= 3; weight++) {
            for (int bears = 0; bears <= 9; bears++) {
                PlankNine x = beside(1, bears, 1);
                check.due(weight + " into " + bears, x.often(weight, 0, 1, 0), bears / weight);
                check.due("the other way", x.often(weight, 1, 0, 0), bears / weight);
                x = beside(2, bears, 1);
                check.due("into each alone", x.often(weight, 0, 1, 0), 2 * (bears / weight));
            }
        }
    }

    private static void mostOften() {
        check.sentence("how many times one of that WEIGHT (STRIDE 1) can go from one to the other in all");
        PlankNine x = beside(9, 9, 3);
        check.due("nine of nine", x.often(1, 0, 1, 0), 81);
        check.due("weight 2", x.often(2, 0, 1, 0), 36);
        check.due("weight 3", x.often(3, 0, 1, 0), 27);
        check.due("all nine bar it", x.often(1, 0, 1, 1), 511);
        check.due("weight 3: all nine bar it", x.often(3, 1, 0, 1), 511);
        // Nobody need be there: the weight alone tells.
        check.due("nobody", Check.told("plank 0 1 9;").often(3, 0, 1, 0), 3);
        // No stride: a leaper there changes nothing.
        x = Check.told("plank 0 1 9;plank 1 2 1;person 2 2;");
        check.due("STRIDE 1", x.often(2, 0, 2, 0), 0);
        check.due("though a leaper has a way", x.way(0, 0, 2, -1), 2);
    }

    private static void oftenApart() {
        check.sentence("of all sets of PLANKS without which the two are apart");
        PlankNine x = Check.told("marsh 6;plank 0 1 9;plank 1 2 9;plank 3 4 9;");
        check.due("apart already", x.often(1, 0, 3, 0), 0);
        check.due("without any", x.often(1, 0, 3, 1), 0);
        check.due("a place without planks", x.often(1, 5, 0, 1), 0);
        check.due("joined", x.often(1, 0, 2, 1), 1);
        check.due("no planks at all", new PlankNine().often(1, 0, 1, 0), 0);
        check.due("no planks at all, cut", new PlankNine().often(1, 0, 1, 1), 0);
    }

    private static void oftenWhereNothingBears() {
        check.sentence("CUT: of all sets of PLANKS without which the two are apart, that by which this is shown");
        for (int planks = 1; planks <= 9; planks++) {
            PlankNine x = beside(planks, 0, 1);
            check.due("all under", x.often(1, 0, 1, 0), 0);
            check.due("planks that are under join, too", x.often(1, 0, 1, 1), (1 << planks) - 1);
        }
        PlankNine x = beside(3, 2, 1);
        check.due("none bears 3", x.often(3, 0, 1, 0), 0);
        check.due("none bears 3, cut", x.often(3, 0, 1, 1), 7);
        check.due("2 each", x.often(2, 0, 1, 0), 3);
        // Of two in a row the one that is under shows it, not the one that bears.
        x = Check.told("plank 0 1 9;plank 1 2 0;");
        check.due("the one under", x.often(1, 0, 2, 1), 2);
        x = Check.told("plank 0 1 0;plank 1 2 0;");
        check.due("both under: the first", x.often(1, 0, 2, 1), 1);
    }

    private static void cutWithLeastBits() {
        check.sentence("(as often as all of it can be gone together), of several the one with the least bits");
        PlankNine x = Check.told("marsh 6;plank 4 5 7;plank 3 4 7;plank 2 3 7;plank 1 2 7;plank 0 1 7;");
        check.due("all five alike", x.often(1, 0, 5, 1), 1);
        check.due("back", x.often(1, 5, 0, 1), 1);
        check.due("0 to 4", x.often(1, 0, 4, 1), 2);
        x.steps(0, 0);
        check.due("nobody stepped", x.often(1, 0, 5, 0), 7);
        // 3 (planks 0, 1) against 4 (plank 2); 6 against 1.
        check.due("least as a number", Check.told("plank 0 1 2;plank 0 1 2;plank 1 2 4;").often(1, 0, 2, 1), 3);
        check.due("the one lowest", Check.told("plank 1 2 4;plank 0 1 2;plank 0 1 2;").often(1, 0, 2, 1), 1);
        // By one more or less it is no longer alike.
        check.due("4 by itself", Check.told("plank 0 1 2;plank 0 1 2;plank 1 2 3;").often(1, 0, 2, 1), 4);
        check.due("3 by itself", Check.told("plank 0 1 2;plank 0 1 2;plank 1 2 5;").often(1, 0, 2, 1), 3);
        // For weight 2 five is as good as four.
        check.due("alike by weight", Check.told("plank 0 1 2;plank 0 1 2;plank 1 2 5;").often(2, 0, 2, 1), 3);
        check.due("alike by weight, back", Check.told("plank 0 1 5;plank 1 2 4;").often(2, 2, 0, 1), 1);
        check.due("not alike by weight 1", Check.told("plank 0 1 5;plank 1 2 4;").often(1, 2, 0, 1), 2);
    }

    private static void cutOfOneSide() {
        check.sentence("that by which this is shown");
        // A plank that is under is not put to a cut that holds without it.
        PlankNine x = Check.told("plank 2 3 0;plank 0 1 5;plank 1 2 9;");
        check.due("plank 1 alone", x.often(1, 0, 2, 1), 2);
        x = Check.told("plank 0 1 3;plank 0 2 1;plank 1 2 1;plank 1 3 1;plank 2 3 3;");
        check.due("over the middle, too", x.often(1, 0, 3, 0), 3);
        check.due("three of them", x.often(1, 0, 3, 1), 2 + 4 + 8);
    }

    private static void oftenRefused() {
        check.sentence("OFTEN (what = 0), CUT (1: bits). BAD (a, b unlike).");
        for (int what = 0; what <= 1; what++) {
            int asked = what;
            for (int w : Check.beyond(1, 3)) {
                check.changesNothing("w " + w, () -> beside(2, 9, 1), x -> x.often(w, 0, 1, asked), PlankNine.BAD);
            }
            for (int a : Check.beyond(0, 3)) {
                check.changesNothing("a " + a, () -> beside(2, 9, 1), x -> x.often(1, a, 0, asked), PlankNine.BAD);
                check.changesNothing("b " + a, () -> beside(2, 9, 1), x -> x.often(1, 0, a, asked), PlankNine.BAD);
            }
            for (int a = 0; a <= 3; a++) {
                int both = a;
                check.changesNothing("alike " + a, () -> beside(2, 9, 1), x -> x.often(1, both, both, asked), PlankNine.BAD);
            }
        }
        for (int what : Check.beyond(0, 1)) {
            check.changesNothing("what " + what, () -> beside(2, 9, 1), x -> x.often(1, 0, 1, what), PlankNine.BAD);
        }
    }

    // ---- better

    private static void fewerThanTwoPlanks() {
        check.sentence("NONE: fewer than two PLANKS.");
        for (int what = 0; what <= 1; what++) {
            check.due("no planks", beside(0, 0, 1).better(1, 0, 1, what), PlankNine.NONE);
            check.due("one plank", beside(1, 9, 1).better(1, 0, 1, what), PlankNine.NONE);
        }
        check.due("two planks", beside(2, 9, 1).better(1, 0, 1, 0), 1);
        check.due("two planks, often then", beside(2, 9, 1).better(1, 0, 1, 1), 18);
        check.due("two under", beside(2, 0, 1).better(1, 0, 1, 0), 1);
        check.due("two under, often then", beside(2, 0, 1).better(1, 0, 1, 1), 0);
        check.due("apart all the same", beside(2, 9, 1).better(1, 2, 3, 0), 1);
        check.due("apart all the same, often then", beside(2, 9, 1).better(1, 2, 3, 1), 0);
    }

    private static void firstOfSeveralPairs() {
        check.sentence("of all pairs of PLANKS (i below j) that by which, exchanged, OFTEN is most, of several the first; 10 i and j; OFTEN then");
        check.due("all alike", beside(9, 5, 1).better(1, 0, 1, 0), 1);
        // Plank 0 to 1 is under; those that bear lie elsewhere.
        String under = "plank 0 1 0;";
        check.due("0 and 1", Check.told(under + "plank 2 3 5;plank 2 3 5;").better(1, 0, 1, 0), 1);
        check.due("0 and 2", Check.told(under + "plank 2 3 4;plank 2 3 5;").better(1, 0, 1, 0), 2);
        check.due("0 and 2, often then", Check.told(under + "plank 2 3 4;plank 2 3 5;").better(1, 0, 1, 1), 5);
        check.due("weight 2: 4 is as good as 5", Check.told(under + "plank 2 3 4;plank 2 3 5;").better(2, 0, 1, 0), 1);
        check.due("1 and 2", Check.told("plank 2 3 4;" + under + "plank 2 3 5;").better(1, 0, 1, 0), 12);
        check.due("7 and 8", Check.told("plank 2 3 0;".repeat(7) + under + "plank 2 3 9;").better(3, 0, 1, 0), 78);
        check.due("7 and 8, often then", Check.told("plank 2 3 0;".repeat(7) + under + "plank 2 3 9;").better(3, 0, 1, 1), 3);
        check.due("0 and 8", Check.told("plank 0 1 0;" + "plank 2 3 0;".repeat(7) + "plank 2 3 1;").better(1, 1, 0, 0), 8);
        // Of pairs alike the first is told by i, then by j.
        check.due("0 3 ahead of 1 2", Check.told("plank 2 3 6;plank 0 1 0;plank 2 3 6;plank 0 1 0;").better(1, 0, 1, 0), 1);
        check.due("0 3 ahead of 1 2, again", Check.told("plank 0 1 0;plank 0 1 0;plank 2 3 3;plank 2 3 6;").better(1, 0, 1, 0), 3);
    }

    private static void worseByEachPair() {
        check.sentence("BEST EXCHANGE: the pair (what = 0), OFTEN then (1); NONE.");
        PlankNine x = Check.told("plank 0 1 9;plank 2 3 1;");
        check.due("the only pair", x.better(1, 0, 1, 0), 1);
        check.due("less often than now", x.better(1, 0, 1, 1), 1);
        x = Check.told("plank 0 1 9;plank 2 3 0;");
        check.due("the only pair, to nothing", x.better(1, 0, 1, 0), 1);
        check.due("never", x.better(1, 0, 1, 1), 0);
        x = Check.told("plank 0 1 9;plank 2 3 1;plank 2 3 4;");
        check.due("the pair aside", x.better(1, 0, 1, 0), 12);
        check.due("as often as now", x.better(1, 0, 1, 1), 9);
    }

    private static void betterRefused() {
        check.sentence("OFTEN then (1); NONE. BAD (a, b unlike).");
        // With one plank, too: BAD is ahead of NONE.
        for (int planks = 0; planks <= 2; planks++) {
            int count = planks;
            for (int w : Check.beyond(1, 3)) {
                check.changesNothing("w " + w, () -> beside(count, 9, 1), x -> x.better(w, 0, 1, 0), PlankNine.BAD);
            }
            for (int a : Check.beyond(0, 3)) {
                check.changesNothing("a " + a, () -> beside(count, 9, 1), x -> x.better(1, a, 0, 0), PlankNine.BAD);
                check.changesNothing("b " + a, () -> beside(count, 9, 1), x -> x.better(1, 0, a, 1), PlankNine.BAD);
            }
            for (int a = 0; a <= 3; a++) {
                int both = a;
                check.changesNothing("alike " + a, () -> beside(count, 9, 1), x -> x.better(1, both, both, 0), PlankNine.BAD);
            }
            for (int what : Check.beyond(0, 1)) {
                check.changesNothing("what " + what, () -> beside(count, 9, 1), x -> x.better(1, 0, 1, what), PlankNine.BAD);
            }
        }
    }

    // ---- spent

    private static void spentMoreIsNothing() {
        check.sentence("SPENT since an IMAGE: of each PLANK what it BEARS less than there (more: 0).");
        for (int then = 0; then <= 9; then++) {
            for (int now = 0; now <= 9; now++) {
                PlankNine x = Check.told("plank 0 1 " + then + ";plank 0 1 " + now + ";");
                x.keep(0);
                x.exchange(0, 1);
                check.due(then + " then, " + now + " now", x.spent(0, 0), Math.max(0, then - now));
                check.due("the other one", x.spent(0, 1), Math.max(0, now - then));
                check.due("what is more is not taken off", x.spent(0, -1), Math.abs(then - now));
            }
        }
    }

    private static void spentByAll() {
        check.sentence("SPENT by a PLANK (k), by all (k = -1).");
        PlankNine x = wornOut();
        check.due("all of all", x.spent(1, -1), 81);
        check.due("the last", x.spent(1, 8), 9);
        x.keep(0);
        check.due("since now", x.spent(0, -1), 0);
        x.back(1);
        check.due("more than now", x.spent(0, -1), 0);
        PlankNine none = new PlankNine();
        none.keep(0);
        check.due("no planks", none.spent(0, -1), 0);
    }

    /** Nine planks of nine, kept as image 1, then stepped on until all are under: 81 steps of weight 1. */
    private static PlankNine wornOut() {
        PlankNine x = Check.told("person 1 1;".repeat(4) + "plank 0 1 9;".repeat(9) + "errand 0 0 1;".repeat(3));
        x.keep(1);
        check.due("27 errands", x.days(9), 0);
        check.due("54", x.days(9), 0);
        check.due("81", x.days(9), 0);
        check.due("all are under", x.count(5), 0);
        return x;
    }

    private static PlankNine keptOne() {
        PlankNine x = Check.told("plank 0 1 5;plank 0 1 7;person 1 1;");
        x.keep(1);
        x.steps(0, 1);
        return x;
    }

    private static void spentRefused() {
        check.sentence("BAD; STATE: that IMAGE was not kept.");
        for (int k = -1; k <= 1; k++) {
            int plank = k;
            check.changesNothing("not kept, k " + k, CanBeBoundsTest::keptOne, x -> x.spent(0, plank), PlankNine.STATE);
            for (int image : Check.beyond(0, 1)) {
                check.changesNothing("image " + image, CanBeBoundsTest::keptOne, x -> x.spent(image, plank), PlankNine.BAD);
            }
        }
        for (int k : Check.beyond(-1, 1)) {
            check.changesNothing("k " + k, CanBeBoundsTest::keptOne, x -> x.spent(1, k), PlankNine.BAD);
            check.changesNothing("BAD ahead of STATE, k " + k, CanBeBoundsTest::keptOne, x -> x.spent(0, k), PlankNine.BAD);
        }
        check.changesNothing("kept", CanBeBoundsTest::keptOne, x -> x.spent(1, -1), 1);
        check.changesNothing("no planks, not kept", PlankNine::new, x -> x.spent(0, -1), PlankNine.STATE);
        check.changesNothing("no planks: no 0", PlankNine::new, x -> x.spent(0, 0), PlankNine.BAD);
    }

    // ---- tell

    private static void waysByWeights() {
        check.sentence("in how many ways all that can be crossings of the PEOPLE (each takes its WEIGHT; who how often over which PLANK)");
        for (int mix = 0; mix < 256; mix++) {
            StringBuilder people = new StringBuilder();
            int[] weights = new int[4];
            for (int p = 0; p < 4; p++) {
                weights[p] = mix >> 2 * p & 3;
                if (weights[p] > 0) {
                    people.append("person ").append(weights[p]).append(" 2;");
                }
            }
            for (int spent = 0; spent <= 9; spent++) {
                PlankNine x = Check.told(people + "plank 0 1 9;plank 0 1 " + (9 - spent) + ";");
                x.keep(0);
                x.exchange(0, 1);
                check.due(spent + " by " + people, x.tell(0), crossings(weights, 0, spent));
            }
        }
    }

    private static long crossings(int[] weights, int p, int spent) {
        if (p == weights.length) {
            return spent == 0 ? 1 : 0;
        }
        long ways = 0;
        for (int times = 0; times * weights[p] <= spent && (weights[p] > 0 || times == 0); times++) {
            ways += crossings(weights, p + 1, spent - times * weights[p]);
        }
        return ways;
    }

    private static void waysMultiplied() {
        check.sentence("of each PLANK the ways, multiplied");
        PlankNine x = Check.told("plank 0 1 9;plank 0 1 9;plank 0 1 9;person 1 1;person 2 1;");
        x.keep(0);
        check.due("nothing spent", x.tell(0), 1);
        x.steps(1, 0);
        check.due("2", x.tell(0), 2);
        x.steps(1, 1);
        x.steps(1, 1);
        check.due("2 and 4", x.tell(0), 2 * 3);
        x.steps(0, 2);
        check.due("2 and 4 and 1", x.tell(0), 2 * 3);
        x.cart(0);
        check.due("one that bears as much again", x.tell(0), 3);
        x.keep(1);
        x.back(0);
        check.due("those that bear more than in it", x.tell(1), 1);
    }

    private static void waysWrap() {
        check.sentence("(as a long, it wraps; 0: some SPENT can be none)");
        PlankNine x = wornOut();
        BigInteger ways = BigInteger.valueOf(220).pow(9);
        check.holds("more than a long holds", ways.bitLength() > 63);
        check.due("nine of 220", x.tell(1), ways.longValue());
        x.cart(8);
        BigInteger fewer = BigInteger.valueOf(220).pow(8);
        check.holds("a long holds it", fewer.bitLength() <= 63);
        check.due("eight of 220", x.tell(1), fewer.longValue());
        x.exchange(7, 8);
        check.due("another eight", x.tell(1), fewer.longValue());
        // One step of weight 1 can be any one of the four.
        x.steps(0, 7);
        BigInteger justBeyond = fewer.multiply(BigInteger.valueOf(4));
        check.holds("more than a long holds, again", justBeyond.bitLength() > 63);
        check.due("eight of 220 and one of 4", x.tell(1), justBeyond.longValue());
    }

    private static void waysThatCanBeNone() {
        check.sentence("0: some SPENT can be none");
        PlankNine x = Check.told("plank 0 1 9;plank 0 1 8;plank 0 1 7;plank 0 1 6;person 2 1;person 3 1;");
        x.keep(0);
        x.exchange(0, 1);
        check.due("1 can be neither 2 nor 3", x.tell(0), 0);
        x.back(0);
        x.exchange(0, 2);
        check.due("2", x.tell(0), 1);
        x.exchange(1, 3);
        check.due("2 and 2", x.tell(0), 1);
        x.back(0);
        x.exchange(0, 2);
        x.exchange(2, 3);
        check.due("2, and one that bears less by 1", x.tell(0), 0);
        x = Check.told("plank 0 1 9;plank 0 1 4;person 3 1;person 3 1;");
        x.keep(0);
        x.exchange(0, 1);
        check.due("5 by threes", x.tell(0), 0);
        x.back(0);
        x.steps(0, 0);
        x.steps(0, 0);
        x.steps(0, 0);
        check.due("9 by threes of two", x.tell(0), 4);
    }

    private static void waysOfNobody() {
        check.sentence("0: some SPENT can be none");
        PlankNine x = Check.told("plank 0 1 3;plank 0 1 2;");
        x.keep(0);
        check.due("nobody, nothing", x.tell(0), 1);
        x.exchange(0, 1);
        check.due("nobody, but spent", x.tell(0), 0);
        x.cart(0);
        check.due("nobody, and more", x.tell(0), 1);
        PlankNine none = new PlankNine();
        none.keep(1);
        check.due("no planks", none.tell(1), 1);
    }

    private static void tellRefused() {
        check.sentence("WAYS TO TELL. BAD; STATE.");
        check.changesNothing("not kept", CanBeBoundsTest::keptOne, x -> x.tell(0), PlankNine.STATE);
        check.changesNothing("kept", CanBeBoundsTest::keptOne, x -> x.tell(1), 1);
        for (int image : Check.beyond(0, 1)) {
            check.changesNothing("image " + image, CanBeBoundsTest::keptOne, x -> x.tell(image), PlankNine.BAD);
            check.changesNothing("image " + image + ", none kept", PlankNine::new, x -> x.tell(image), PlankNine.BAD);
        }
    }

    // ---- all five

    private static PlankNine worn() {
        PlankNine x = Check.told("marsh 5;plank 0 1 9;plank 1 2 2;plank 0 2 5;plank 2 3 4;plank 3 4 6;plank 1 3 1;"
            + "person 1 1;person 2 2;errand 0 0 4;errand 1 2 0;errand 0 3 1;");
        x.keep(0);
        x.steps(1, 1);
        x.steps(0, 4);
        x.rate(4, 1);
        Check.say(x, "person 3 1;");
        return x;
    }

    private static void nothingIsChanged() {
        check.sentence("======== 3 (Nothing is changed.)");
        for (int what = 0; what <= 1; what++) {
            int asked = what;
            check.changesNothing("all", CanBeBoundsTest::worn, x -> x.all(asked), what == 0 ? 1 : 18);
            check.changesNothing("often", CanBeBoundsTest::worn, x -> x.often(1, 0, 4, asked), what == 0 ? 5 : 16);
            check.changesNothing("better", CanBeBoundsTest::worn, x -> x.better(1, 0, 4, asked), what == 0 ? 1 : 5);
        }
        check.changesNothing("spent", CanBeBoundsTest::worn, x -> x.spent(0, -1), 3);
        check.changesNothing("tell", CanBeBoundsTest::worn, x -> x.tell(0), 2);
    }
}
