/** Promises 8 to 15: way, go, steps, days, went, frost, cart, exchange. */
public final class GoingTest {
    private static final Check check = new Check("GoingTest");

    public static void main(String[] args) {
        fewestPlanksFirst();
        firstByNumbers();
        wayTakesByWeight();
        wayLeapsByStride();
        wayOverAllPlaces();
        wayRefused();
        going();
        goingRefused();
        stepping();
        daysByErrands();
        daysAsPlanksAreThen();
        whatWent();
        wentBeyondTwenty();
        freezing();
        carting();
        exchanging();
        check.finish();
    }

    private static void fewestPlanksFirst() {
        PlankNine x = Check.told("plank 0 1 9;plank 1 2 9;plank 2 3 9;plank 0 3 1;person 1 1;person 2 1;");
        check.due("one plank", x.way(0, 0, 3, -1), 1);
        check.due("plank 3", x.way(0, 0, 3, 0), 3);
        check.due("one plank back", x.way(0, 3, 0, 0), 3);
        check.due("heavier: three", x.way(1, 0, 3, -1), 3);
        check.due("0", x.way(1, 0, 3, 0), 0);
        check.due("1", x.way(1, 0, 3, 1), 1);
        check.due("2", x.way(1, 0, 3, 2), 2);
        check.due("no fourth", x.way(1, 0, 3, 3), -5);
        check.due("heavier back: 2 first", x.way(1, 3, 0, 0), 2);
        check.due("heavier back: 0 last", x.way(1, 3, 0, 2), 0);
    }

    private static void firstByNumbers() {
        // Two ways of two planks: 3 and 0, 1 and 2; the first that differs is 1 against 3.
        PlankNine x = Check.told("plank 2 3 5;plank 0 1 5;plank 1 3 5;plank 0 2 5;person 1 1;");
        check.due("first", x.way(0, 0, 3, 0), 1);
        check.due("second", x.way(0, 0, 3, 1), 2);
        check.due("back: 0", x.way(0, 3, 0, 0), 0);
        check.due("back: 3", x.way(0, 3, 0, 1), 3);
        // The same first plank: the second one tells.
        x = Check.told("plank 0 1 5;plank 1 2 1;plank 2 1 5;person 1 1;person 2 1;");
        check.due("1 of 1, 2", x.way(0, 0, 2, 1), 1);
        check.due("1 does not bear it", x.way(1, 0, 2, 1), 2);
        // A lower first plank that leads nowhere is left again.
        x = Check.told("plank 0 1 5;plank 0 2 5;plank 2 3 5;person 1 1;");
        check.due("not by 0", x.way(0, 0, 3, 0), 1);
        check.due("then 2", x.way(0, 0, 3, 1), 2);
    }

    private static void wayTakesByWeight() {
        PlankNine x = Check.told("plank 0 1 2;person 1 1;person 2 1;person 3 1;person 3 2;");
        check.due("1 of 2", x.way(0, 0, 1, -1), 1);
        check.due("2 of 2", x.way(1, 0, 1, -1), 1);
        check.due("3 of 2", x.way(2, 0, 1, -1), PlankNine.NONE);
        check.due("3 of 2, the first is no second one", x.way(3, 0, 1, -1), PlankNine.NONE);
        check.due("NONE ahead of not so many", x.way(2, 0, 1, 7), PlankNine.NONE);
    }

    private static void wayLeapsByStride() {
        PlankNine x = Check.told("marsh 6;plank 0 1 3;plank 1 2 1;plank 2 3 3;plank 3 4 1;plank 4 5 2;person 3 2;person 3 1;");
        check.due("2nd takes none", x.way(0, 0, 2, -1), 2);
        check.due("3rd takes 3", x.way(0, 0, 3, -1), 3);
        check.due("4th takes none", x.way(0, 0, 4, -1), 4);
        check.due("5th takes 3 of 2", x.way(0, 0, 5, -1), PlankNine.NONE);
        check.due("stride 1", x.way(1, 0, 2, -1), PlankNine.NONE);
        check.due("the other way round the 1st is weak", x.way(0, 2, 0, -1), PlankNine.NONE);
        // One that is under bears none that takes nothing, either.
        x = Check.told("plank 0 1 3;plank 1 2 0;person 3 2;");
        check.due("under", x.way(0, 0, 2, -1), PlankNine.NONE);
        // A longer way to the same place may be borne where the shorter one is not.
        x = Check.told("marsh 5;plank 0 1 9;plank 1 2 9;plank 2 3 1;plank 0 4 9;plank 4 1 9;person 2 2;");
        check.due("weak one as the 4th", x.way(0, 0, 3, -1), 4);
        check.due("by 3", x.way(0, 0, 3, 0), 3);
        check.due("by 4", x.way(0, 0, 3, 1), 4);
        check.due("by 1", x.way(0, 0, 3, 2), 1);
        check.due("by 2", x.way(0, 0, 3, 3), 2);
    }

    private static void wayOverAllPlaces() {
        PlankNine x = Check.told("marsh 6;plank 4 5 1;plank 3 4 1;plank 2 3 1;plank 1 2 1;plank 0 1 1;person 1 1;");
        check.due("five", x.way(0, 0, 5, -1), 5);
        for (int i = 0; i < 5; i++) {
            check.due("the " + i + "-th", x.way(0, 0, 5, i), 4 - i);
        }
        check.due("no sixth", x.way(0, 0, 5, 5), -5);
        check.due("no last int", x.way(0, 0, 5, Integer.MAX_VALUE), -5);
        // No place twice: a round by 1, 2, 3 would put the weak plank second, but comes to 1 again.
        x = Check.told("plank 0 1 1;plank 1 2 9;plank 2 3 9;plank 3 1 9;person 1 2;");
        check.due("straight", x.way(0, 0, 3, -1), 2);
        x = Check.told("marsh 5;plank 0 1 9;plank 1 2 9;plank 2 3 9;plank 3 1 9;plank 1 4 1;person 2 2;person 2 1;");
        check.due("leaps over 4", x.way(0, 0, 4, -1), 2);
        check.due("no round is of use", x.way(1, 0, 4, -1), PlankNine.NONE);
        x = Check.told("marsh 4;plank 0 1 9;plank 0 2 9;plank 2 0 9;plank 0 3 1;person 2 2;");
        check.due("the start is a place, too", x.way(0, 0, 3, -1), PlankNine.NONE);
    }

    private static void wayRefused() {
        PlankNine x = Check.told("marsh 3;plank 0 1 9;person 1 1;");
        check.due("nobody 1", x.way(1, 0, 1, -1), PlankNine.BAD);
        check.due("nobody -1", x.way(-1, 0, 1, -1), PlankNine.BAD);
        check.due("a like b", x.way(0, 1, 1, -1), PlankNine.BAD);
        check.due("a 3", x.way(0, 3, 1, -1), PlankNine.BAD);
        check.due("b 3", x.way(0, 0, 3, -1), PlankNine.BAD);
        check.due("a -1", x.way(0, -1, 1, -1), PlankNine.BAD);
        check.due("b -1", x.way(0, 0, -1, -1), PlankNine.BAD);
        check.due("i -2", x.way(0, 0, 1, -2), PlankNine.BAD);
        check.due("i -2, no way", x.way(0, 0, 2, -2), PlankNine.BAD);
        check.due("no way", x.way(0, 0, 2, -1), PlankNine.NONE);
        check.due("nothing is changed", x.count(5), 9);
    }

    private static void going() {
        PlankNine x = Check.told("plank 0 1 3;plank 1 2 2;plank 2 3 2;person 2 1;person 1 2;");
        check.due("one goes under", x.go(0, 0, 2), 1);
        check.due("0", x.plank(0, 2), 1);
        check.due("1", x.plank(1, 2), 0);
        check.due("2 as it was", x.plank(2, 2), 2);
        check.due("which", x.went(0, 0), 1);
        check.due("under whom", x.went(0, 1), 0);
        x = Check.told("plank 0 1 1;plank 1 2 1;plank 2 3 1;person 1 2;");
        check.due("first and third", x.go(0, 0, 3), 2);
        check.due("second as it was", x.plank(1, 2), 1);
        check.due("first of them", x.went(0, 0), 0);
        check.due("then", x.went(1, 0), 2);
        x = Check.told("plank 0 1 1;plank 1 2 1;plank 2 3 1;person 1 1;");
        check.due("all, from the end", x.go(0, 3, 0), 3);
        check.due("in the way's order", x.went(0, 0), 2);
        check.due("in the way's order, last", x.went(2, 0), 0);
    }

    private static void goingRefused() {
        PlankNine x = Check.told("plank 0 1 2;plank 1 2 1;person 2 1;");
        check.due("no way", x.go(0, 0, 2), PlankNine.STATE);
        check.due("nothing is changed", x.count(5), 3);
        check.due("nothing went", x.count(4), 0);
        check.due("nobody", x.go(1, 0, 1), PlankNine.BAD);
        check.due("nobody -1", x.go(-1, 0, 1), PlankNine.BAD);
        check.due("alike", x.go(0, 1, 1), PlankNine.BAD);
        check.due("a 4", x.go(0, 4, 1), PlankNine.BAD);
        check.due("b 4", x.go(0, 1, 4), PlankNine.BAD);
        check.due("b -1", x.go(0, 1, -1), PlankNine.BAD);
        check.due("a way", x.go(0, 0, 1), 1);
        check.due("once", x.go(0, 0, 1), PlankNine.STATE);
    }

    private static void stepping() {
        PlankNine x = Check.told("plank 0 1 5;plank 1 2 2;person 2 2;person 3 1;");
        check.due("takes weight", x.steps(0, 0), 3);
        check.due("takes weight again, stride or not", x.steps(0, 0), 1);
        check.due("1 bears no 2", x.steps(0, 0), PlankNine.STATE);
        check.due("nothing is changed", x.plank(0, 2), 1);
        check.due("none went", x.count(4), 0);
        check.due("2 bears no 3", x.steps(1, 1), PlankNine.STATE);
        check.due("to 0", x.steps(0, 1), 0);
        check.due("it went", x.went(0, 0), 1);
        check.due("with", x.went(0, 1), 0);
        check.due("under", x.steps(0, 1), PlankNine.STATE);
        check.due("went once", x.count(4), 1);
        check.due("nobody 2", x.steps(2, 0), PlankNine.BAD);
        check.due("nobody -1", x.steps(-1, 0), PlankNine.BAD);
        check.due("no plank 2", x.steps(0, 2), PlankNine.BAD);
        check.due("no plank -1", x.steps(0, -1), PlankNine.BAD);
        check.due("BAD ahead of STATE", x.steps(9, 1), PlankNine.BAD);
    }

    private static void daysByErrands() {
        PlankNine x = Check.told("plank 0 1 9;plank 1 2 4;person 1 1;person 3 1;errand 0 0 1;errand 1 0 2;");
        check.due("day 1", x.days(1), 0);
        check.due("0 bears", x.plank(0, 2), 5);
        check.due("1 bears", x.plank(1, 2), 1);
        check.due("errand 1 has none", x.days(1), 1);
        check.due("errand 0 was run", x.plank(0, 2), 4);
        check.due("five days more", x.days(5), 6);
        check.due("0 went", x.went(0, 0), 0);
        check.due("under 0", x.went(0, 1), 0);
        check.due("nine days", x.days(9), 18);
        check.due("n 0", x.days(0), PlankNine.BAD);
        check.due("n 10", x.days(10), PlankNine.BAD);
        check.due("n -1", x.days(-1), PlankNine.BAD);
        check.due("no errands", Check.told("plank 0 1 9;person 1 1;").days(9), 0);
    }

    private static void daysAsPlanksAreThen() {
        // The short way bears one; the errand behind it must go round.
        PlankNine x = Check.told("plank 0 1 2;plank 0 2 9;plank 2 1 9;person 2 1;errand 0 0 1;errand 0 1 0;");
        check.due("both run", x.days(1), 0);
        check.due("0 under", x.plank(0, 2), 0);
        check.due("1 once", x.plank(1, 2), 7);
        check.due("2 once", x.plank(2, 2), 7);
        check.due("three more fit of four", x.days(2), 1);
        check.due("1 left", x.plank(1, 2), 1);
    }

    private static void whatWent() {
        PlankNine x = Check.told("plank 0 1 1;plank 1 2 3;person 1 1;person 3 1;");
        check.due("none", x.went(0, 0), -5);
        x.steps(1, 1);
        x.steps(0, 0);
        check.due("first", x.went(0, 0), 1);
        check.due("first with", x.went(0, 1), 1);
        check.due("second", x.went(1, 0), 0);
        check.due("second with", x.went(1, 1), 0);
        check.due("no third", x.went(2, 0), -5);
        check.due("no third with", x.went(2, 1), -5);
        check.due("no last int", x.went(Integer.MAX_VALUE, 1), -5);
        check.due("i -1", x.went(-1, 0), PlankNine.BAD);
        check.due("what 2", x.went(0, 2), PlankNine.BAD);
        check.due("what -1", x.went(0, -1), PlankNine.BAD);
        check.due("BAD ahead of not so many", x.went(5, 2), PlankNine.BAD);
        x.cart(1);
        check.due("a new plank is not unwent", x.count(4), 2);
        x.exchange(0, 1);
        check.due("an exchange lets none go", x.count(4), 2);
    }

    private static void wentBeyondTwenty() {
        PlankNine x = Check.told("plank 0 1 9;plank 1 2 9;person 3 1;person 3 1;");
        for (int time = 0; time < 19; time++) {
            x.cart(0);
            x.steps(0, 0);
            x.steps(0, 0);
            check.due("under again", x.steps(0, 0), 0);
        }
        check.due("nineteen", x.count(4), 19);
        x.cart(0);
        for (int time = 0; time < 4; time++) {
            x.steps(0, time < 2 ? 0 : 1);
        }
        check.due("two go at once", x.go(1, 2, 0), 2);
        check.due("twenty are known", x.count(4), 20);
        check.due("the twentieth", x.went(19, 0), 1);
        check.due("with", x.went(19, 1), 1);
        check.due("beyond", x.went(20, 0), -5);
        x.cart(0);
        x.cart(1);
        x.go(0, 0, 2);
        x.go(0, 0, 2);
        check.due("going under is told even if it is not known", x.go(0, 0, 2), 2);
        check.due("twenty stay", x.count(4), 20);
        check.due("the twentieth stays", x.went(19, 1), 1);
        check.due("the first stays", x.went(0, 0), 0);
        x.cart(0);
        x.steps(0, 0);
        x.steps(0, 0);
        check.due("steps beyond twenty", x.steps(0, 0), 0);
        check.due("beyond, still", x.went(20, 0), -5);
    }

    private static void freezing() {
        PlankNine x = Check.told("plank 0 1 0;plank 0 1 1;plank 0 1 8;plank 0 1 9;");
        check.due("two more", x.frost(), 2);
        check.due("under stays", x.plank(0, 2), 0);
        check.due("1", x.plank(1, 2), 2);
        check.due("8", x.plank(2, 2), 9);
        check.due("9 stays", x.plank(3, 2), 9);
        check.due("one more", x.frost(), 1);
        check.due("no planks", new PlankNine().frost(), 0);
    }

    private static void carting() {
        PlankNine x = Check.told("plank 0 1 0;plank 1 2 4;");
        check.due("was under", x.cart(0), 0);
        check.due("bears 9", x.plank(0, 2), 9);
        check.due("bore 4", x.cart(1), 4);
        check.due("bore 9", x.cart(1), 9);
        check.due("no 2", x.cart(2), PlankNine.BAD);
        check.due("no -1", x.cart(-1), PlankNine.BAD);
        check.due("no 9", x.cart(9), PlankNine.BAD);
        check.due("sum", x.count(5), 18);
    }

    private static void exchanging() {
        PlankNine x = Check.told("plank 0 1 2;plank 2 3 7;plank 1 2 0;");
        check.due("two", x.exchange(0, 1), 1);
        check.due("0", x.plank(0, 2), 7);
        check.due("1", x.plank(1, 2), 2);
        check.due("places stay", x.plank(0, 1), 1);
        check.due("the higher first", x.exchange(2, 0), 1);
        check.due("0 under", x.plank(0, 2), 0);
        check.due("2", x.plank(2, 2), 7);
        check.due("not gone under by it", x.count(4), 0);
        check.due("one and the same", x.exchange(1, 1), PlankNine.BAD);
        check.due("no 3", x.exchange(0, 3), PlankNine.BAD);
        check.due("no 3 first", x.exchange(3, 0), PlankNine.BAD);
        check.due("no -1", x.exchange(-1, 0), PlankNine.BAD);
        check.due("no -1 behind", x.exchange(0, -1), PlankNine.BAD);
    }
}
