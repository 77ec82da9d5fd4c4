/** Promises 16 to 20: all, often, better, spent, tell. */
public final class CanBeTest {
    private static final Check check = new Check("CanBeTest");

    public static void main(String[] args) {
        allDone();
        allInTheirOrder();
        allByAnotherWayThanTheFirst();
        allLeavesAllAsItIs();
        oftenByWeight();
        oftenByMorePlaces();
        cutOfLeastBits();
        cutWithPlanksThatBearNone();
        oftenRefused();
        bestExchange();
        bestExchangeRefused();
        spentSince();
        spentRefused();
        waysToTell();
        waysToTellWrap();
        tellRefused();
        check.finish();
    }

    private static void allDone() {
        PlankNine x = Check.told("plank 0 1 5;plank 1 2 4;person 2 1;errand 0 0 2;errand 0 2 0;");
        check.due("twice", x.all(0), 1);
        check.due("9 less 8", x.all(1), 1);
        x.steps(0, 1);
        check.due("once only", x.all(0), 0);
        check.due("NONE", x.all(1), PlankNine.NONE);
        x = Check.told("plank 0 1 5;person 1 1;");
        check.due("no errands", x.all(0), 1);
        check.due("no errands: all is left", x.all(1), 5);
        x = Check.told("plank 0 1 2;person 2 1;errand 0 1 0;");
        check.due("nothing is left", x.all(1), 0);
        check.due("nothing left is done, too", x.all(0), 1);
        check.due("what 2", x.all(2), PlankNine.BAD);
        check.due("what -1", x.all(-1), PlankNine.BAD);
    }

    private static void allInTheirOrder() {
        // The leaper must cross plank 1 (takes none there) before the other one takes all of it.
        String planks = "marsh 3;plank 0 1 9;plank 1 2 1;person 3 2;person 1 1;";
        PlankNine x = Check.told(planks + "errand 0 0 2;errand 1 1 2;");
        check.due("leaper first", x.all(0), 1);
        check.due("leaper first, left", x.all(1), 6);
        x = Check.told(planks + "errand 1 1 2;errand 0 0 2;");
        check.due("leaper last", x.all(0), 0);
    }

    private static void allByAnotherWayThanTheFirst() {
        // By FIRST WAYS errand 0 takes plank 0, which errand 1 needs; round about both can be done.
        PlankNine x = Check.told("plank 0 1 1;plank 0 2 1;plank 2 1 1;plank 1 3 1;"
            + "person 1 1;errand 0 0 1;errand 0 0 3;");
        check.due("both", x.all(0), 1);
        check.due("left", x.all(1), 0);
        x = Check.told("plank 0 1 1;plank 0 2 1;plank 2 1 1;plank 1 3 2;person 2 2;person 1 1;errand 1 0 1;errand 1 0 3;");
        check.due("most is left", x.all(1), 1);
        x = Check.told("plank 0 1 9;plank 1 2 9;plank 0 2 9;person 1 1;errand 0 0 2;");
        check.due("the shorter way, though its numbers are behind", x.all(1), 26);
        // 1 by the short one makes 2 go round (1 + 4); 1 going round leaves it to 2 (2 + 2).
        x = Check.told("plank 0 1 2;plank 0 2 9;plank 2 1 9;person 1 1;person 2 1;errand 0 0 1;errand 1 0 1;");
        check.due("the lighter one goes round", x.all(1), 16);
        // With stride 2 two planks take as much as one.
        x = Check.told("plank 0 3 9;plank 0 1 9;plank 1 3 9;person 2 2;errand 0 0 3;");
        check.due("either takes 2", x.all(1), 25);
        x = Check.told("plank 0 1 3;plank 0 2 3;plank 2 1 3;person 3 1;errand 0 0 1;errand 0 1 2;");
        check.due("straight, then straight", x.all(1), 3);
        x = Check.told("plank 0 1 3;plank 0 2 3;plank 2 1 3;person 3 1;errand 0 0 2;errand 0 0 1;errand 0 1 2;");
        check.due("all three straight", x.all(1), 0);
    }

    private static void allLeavesAllAsItIs() {
        PlankNine x = Check.told("plank 0 1 3;plank 0 2 3;plank 2 1 3;person 3 1;errand 0 0 1;errand 0 1 2;");
        x.keep(0);
        x.all(0);
        x.all(1);
        x.better(1, 0, 1, 0);
        for (int k = 0; k < 3; k++) {
            check.due("bears", x.plank(k, 2), 3);
        }
        check.due("none went", x.count(4), 0);
    }

    private static void oftenByWeight() {
        PlankNine x = Check.told("plank 0 1 9;plank 0 1 5;plank 1 2 8;");
        check.due("w 1", x.often(1, 0, 1, 0), 14);
        check.due("w 2: 4 and 2", x.often(2, 0, 1, 0), 6);
        check.due("w 3: 3 and 1", x.often(3, 0, 1, 0), 4);
        check.due("as far as plank 2", x.often(1, 0, 2, 0), 8);
        check.due("back", x.often(1, 2, 0, 0), 8);
        check.due("w 3: as far as plank 2", x.often(3, 2, 0, 0), 2);
        check.due("nowhere", x.often(1, 0, 3, 0), 0);
        check.due("nothing to bar", x.often(1, 0, 3, 1), 0);
        check.due("no planks", new PlankNine().often(3, 1, 2, 1), 0);
    }

    private static void oftenByMorePlaces() {
        // A bridge in the middle of two ways: the way over it adds one.
        PlankNine x = Check.told("plank 0 1 3;plank 0 2 1;plank 1 2 1;plank 1 3 1;plank 2 3 3;");
        check.due("1, 1 and 1 over the middle", x.often(1, 0, 3, 0), 3);
        check.due("cut", x.often(1, 0, 3, 1), 2 + 4 + 8);
        check.due("w 2", x.often(2, 0, 3, 0), 0);
        check.due("w 2 cut", x.often(2, 0, 3, 1), 2 + 4 + 8);
        check.due("w 3", x.often(3, 0, 1, 0), 1);
    }

    private static void cutOfLeastBits() {
        // {0, 1} and {2} bar it alike: 3 is less than 4, though 4 has fewer planks.
        PlankNine x = Check.told("plank 0 1 2;plank 0 1 2;plank 1 2 4;");
        check.due("least as a number", x.often(1, 0, 2, 1), 3);
        x = Check.told("plank 1 2 4;plank 0 1 2;plank 0 1 2;");
        check.due("1 is less than 6", x.often(1, 0, 2, 1), 1);
        check.due("the other way", x.often(1, 2, 0, 1), 1);
    }

    private static void cutWithPlanksThatBearNone() {
        PlankNine x = Check.told("plank 0 1 0;plank 0 1 3;plank 1 2 3;");
        check.due("with the one under", x.often(1, 0, 1, 1), 3);
        check.due("of 3 and 4 the less", x.often(1, 0, 2, 1), 3);
        x = Check.told("plank 0 1 9;plank 1 2 9;plank 2 3 0;plank 3 0 0;");
        check.due("both that are under", x.often(1, 0, 3, 1), 12);
        check.due("none", x.often(1, 0, 3, 0), 0);
    }

    private static void oftenRefused() {
        PlankNine x = Check.told("marsh 3;plank 0 1 9;");
        check.due("w 0", x.often(0, 0, 1, 0), PlankNine.BAD);
        check.due("w 4", x.often(4, 0, 1, 0), PlankNine.BAD);
        check.due("w -1", x.often(-1, 0, 1, 0), PlankNine.BAD);
        check.due("alike", x.often(1, 1, 1, 0), PlankNine.BAD);
        check.due("a 3", x.often(1, 3, 1, 0), PlankNine.BAD);
        check.due("b 3", x.often(1, 0, 3, 0), PlankNine.BAD);
        check.due("a -1", x.often(1, -1, 1, 0), PlankNine.BAD);
        check.due("b -1", x.often(1, 0, -1, 0), PlankNine.BAD);
        check.due("what 2", x.often(1, 0, 1, 2), PlankNine.BAD);
        check.due("what -1", x.often(1, 0, 1, -1), PlankNine.BAD);
    }

    private static void bestExchange() {
        PlankNine x = Check.told("plank 0 1 9;plank 2 3 1;plank 1 2 2;plank 2 3 8;");
        // 0 - 1 - 2 is as good as its weaker plank: 2 for 3 makes 8.
        check.due("pair", x.better(1, 0, 2, 0), 23);
        check.due("often then", x.better(1, 0, 2, 1), 8);
        check.due("w 3 pair", x.better(3, 0, 2, 0), 23);
        check.due("w 3 often", x.better(3, 0, 2, 1), 2);
        check.due("nothing is changed", x.often(1, 0, 2, 0), 2);
        // All alike: the first pair, and no better.
        x = Check.told("plank 0 1 5;plank 1 2 5;plank 2 3 5;");
        check.due("first of several", x.better(1, 0, 3, 0), 1);
        check.due("as before", x.better(1, 0, 3, 1), 5);
        // Each exchange makes it worse: one of them it is, all the same.
        x = Check.told("plank 0 1 9;plank 2 3 1;plank 2 3 4;");
        check.due("the least worse", x.better(1, 0, 1, 0), 12);
        check.due("the pair that is not on the way", x.better(1, 0, 1, 1), 9);
        x = Check.told("plank 0 1 9;plank 2 3 1;");
        check.due("the only pair", x.better(1, 0, 1, 0), 1);
        check.due("worse", x.better(1, 0, 1, 1), 1);
        x = Check.told("plank 0 1 0;".repeat(8) + "plank 2 3 9;");
        check.due("a pair with 8", x.better(2, 0, 1, 0), 8);
        check.due("often with 8", x.better(2, 0, 1, 1), 4);
        x = Check.told("plank 2 3 0;".repeat(7) + "plank 0 1 0;plank 2 3 9;");
        check.due("7 and 8", x.better(1, 0, 1, 0), 78);
    }

    private static void bestExchangeRefused() {
        PlankNine x = Check.told("marsh 2;plank 0 1 9;");
        check.due("one plank", x.better(1, 0, 1, 0), PlankNine.NONE);
        check.due("one plank, often", x.better(1, 0, 1, 1), PlankNine.NONE);
        check.due("no plank", new PlankNine().better(1, 0, 1, 0), PlankNine.NONE);
        check.due("BAD ahead of NONE", x.better(1, 0, 2, 0), PlankNine.BAD);
        check.due("w 0", x.better(0, 0, 1, 0), PlankNine.BAD);
        check.due("w 4", x.better(4, 0, 1, 0), PlankNine.BAD);
        check.due("alike", x.better(1, 0, 0, 0), PlankNine.BAD);
        check.due("a -1", x.better(1, -1, 0, 0), PlankNine.BAD);
        check.due("what 2", x.better(1, 0, 1, 2), PlankNine.BAD);
        check.due("what -1", x.better(1, 0, 1, -1), PlankNine.BAD);
    }

    private static void spentSince() {
        PlankNine x = Check.told("plank 0 1 5;plank 1 2 5;plank 2 3 5;person 2 1;");
        x.keep(0);
        x.steps(0, 0);
        x.steps(0, 1);
        x.keep(1);
        x.steps(0, 1);
        x.cart(2);
        check.due("0 since 0", x.spent(0, 0), 2);
        check.due("1 since 0", x.spent(0, 1), 4);
        check.due("2 bears more", x.spent(0, 2), 0);
        check.due("all since 0: what is more is no less", x.spent(0, -1), 6);
        check.due("all since 1", x.spent(1, -1), 2);
        check.due("0 since 1", x.spent(1, 0), 0);
    }

    private static void spentRefused() {
        PlankNine x = Check.told("plank 0 1 5;");
        check.due("not kept", x.spent(0, 0), PlankNine.STATE);
        check.due("BAD ahead of STATE", x.spent(0, 1), PlankNine.BAD);
        x.keep(1);
        check.due("the other one was kept", x.spent(0, -1), PlankNine.STATE);
        check.due("kept", x.spent(1, 0), 0);
        check.due("no plank 1", x.spent(1, 1), PlankNine.BAD);
        check.due("k -2", x.spent(1, -2), PlankNine.BAD);
        check.due("image 2", x.spent(2, 0), PlankNine.BAD);
        check.due("image -1", x.spent(-1, 0), PlankNine.BAD);
    }

    private static void waysToTell() {
        PlankNine x = Check.told("plank 0 1 9;plank 1 2 9;person 1 1;person 2 2;person 1 1;");
        x.keep(0);
        check.due("nothing spent: one way", x.tell(0), 1);
        x.steps(1, 0);
        // 2 by 1, 2, 1: one 2, or two of the first, two of the third, one of each.
        check.due("2", x.tell(0), 4);
        x.steps(0, 1);
        check.due("2 and 1", x.tell(0), 8);
        x.cart(0);
        check.due("1 alone", x.tell(0), 2);
        x = Check.told("plank 0 1 9;plank 1 2 1;person 2 1;person 3 1;");
        x.keep(0);
        x.exchange(0, 1);
        check.due("8 is 4 of 2, or 1 of 2 and 2 of 3", x.tell(0), 2);
        x = Check.told("plank 0 1 3;plank 1 2 2;person 2 1;person 3 1;");
        x.keep(0);
        x.exchange(0, 1);
        check.due("1 can be none", x.tell(0), 0);
        x = Check.told("plank 0 1 3;plank 1 2 2;");
        x.keep(0);
        check.due("nobody, nothing", x.tell(0), 1);
        x.exchange(0, 1);
        check.due("nobody, but spent", x.tell(0), 0);
    }

    private static void waysToTellWrap() {
        PlankNine x = Check.told("plank 0 1 9;".repeat(9) + "person 1 1;".repeat(4));
        x.keep(1);
        long due = 1;
        for (int k = 0; k < 9; k++) {
            for (int step = 0; step < 9; step++) {
                x.steps(step % 4, k);
            }
            due *= 220;
            check.due("planks to " + k, x.tell(1), due);
        }
        check.holds("it wraps", due != Math.round(Math.pow(220, 9)));
    }

    private static void tellRefused() {
        PlankNine x = Check.told("plank 0 1 5;");
        check.due("not kept", x.tell(0), PlankNine.STATE);
        x.keep(0);
        check.due("kept", x.tell(0), 1);
        check.due("not kept 1", x.tell(1), PlankNine.STATE);
        check.due("image 2", x.tell(2), PlankNine.BAD);
        check.due("image -1", x.tell(-1), PlankNine.BAD);
    }
}
