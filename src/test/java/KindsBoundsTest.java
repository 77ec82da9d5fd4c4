/** Boundary cases of kinds and images: promises 21 to 25. */
public final class KindsBoundsTest {
    private static final Check check = new Check("KindsBoundsTest");

    public static void main(String[] args) {
        ratesOfEveryOne();
        howManyBearIt();
        numbersOfThieves();
        howManyWent();
        belowNothing();
        ratesRefused();
        traceAtFirst();
        traceOfBodies();
        traceStays();
        howManyAreNotUnder();
        imagesKeepNow();
        imagesKeepNothingElse();
        imagesAreApart();
        imagesOfTwenty();
        keepRefused();
        backRefused();
        backOfAnEmptyOne();
        countsAtTheirEnds();
        countRefused();
        asksThatChangeNothing();
        check.finish();
    }

    private static PlankNine crowd() {
        return Check.told("plank 0 1 0;plank 0 1 1;plank 0 1 2;plank 0 1 3;plank 0 1 9;person 1 1;person 1 2;person 2 1;person 3 2;");
    }

    // ---- rate, trace

    private static void ratesOfEveryOne() {
        check.sentence("0 PERSON; 1 FARMER, 2 LEAPER, 5 BRIDE (each under PERSON); 3 CARTER (under FARMER); 4 THIEF (under LEAPER).");
        PlankNine x = crowd();
        int[][] due = {
            {1, 1, 2, 3},
            {1 + 4, 1 + 4, 2 + 3, 3 + 2},
            {0, -1, 1, 1},
            {10, 10, 10, 10},
            {0, 0, 3, 4},
            {1, 1, 2, 3}};
        for (int kind = 0; kind <= 5; kind++) {
            for (int p = 0; p <= 3; p++) {
                check.due("kind " + kind + " of " + p, x.rate(kind, p), due[kind][p]);
            }
        }
    }

    private static void howManyBearIt() {
        check.sentence("FARMER up, and how many PLANKS BEAR it (10).");
        check.sentence("CARTER twice up (1000).");
        for (int weight = 1; weight <= 3; weight++) {
            for (int bears = 0; bears <= 9; bears++) {
                PlankNine x = Check.told("person " + weight + " 1;" + ("plank 0 1 " + bears + ";").repeat(9));
                int planks = bears >= weight ? 9 : 0;
                check.due("farmer of " + weight + " on " + bears, x.rate(1, 0), weight + planks);
                check.due("carter of " + weight + " on " + bears, x.rate(3, 0), 2 * (weight + planks));
            }
            check.due("farmer, no planks", Check.told("person " + weight + " 1;").rate(1, 0), weight);
        }
    }

    private static void numbersOfThieves() {
        check.sentence("LEAPER up less STRIDE (100).");
        check.sentence("THIEF up, and its number (10000).");
        PlankNine x = Check.told("person 3 1;".repeat(4));
        for (int p = 0; p <= 3; p++) {
            check.due("leaper " + p, x.rate(2, p), 2);
            check.due("thief " + p, x.rate(4, p), 2 + p);
        }
    }

    private static void howManyWent() {
        check.sentence("BRIDE up, and how many PLANKS WENT under (known ones) (100000).");
        PlankNine x = Check.told("plank 0 1 0;plank 0 1 3;person 3 1;");
        check.due("told as under, it did not go", x.rate(5, 0), 3);
        for (int times = 1; times <= 22; times++) {
            check.due("under", x.steps(0, 1), 0);
            check.due("bride behind " + times, x.rate(5, 0), 3 + Math.min(times, 20));
            x.cart(1);
            x.steps(0, 1);
            x.steps(0, 1);
        }
    }

    private static void belowNothing() {
        check.sentence("What none is, where a number may be below 0.");
        PlankNine x = Check.told("person 1 2;");
        check.due("below 0, but a rate", x.rate(2, 0), -1);
        check.due("its bodies were asked", x.trace(), 101);
        check.due("none", x.rate(2, 1), PlankNine.NO);
        check.due("no body was asked", x.trace(), 101);
        check.due("NO", PlankNine.NO, -1000000);
    }

    private static void ratesRefused() {
        check.sentence("RATE. NO: BAD.");
        for (int p = 0; p <= 3; p++) {
            int one = p;
            for (int kind : Check.beyond(0, 5)) {
                check.changesNothing("kind " + kind + " of " + p, KindsBoundsTest::crowd, x -> x.rate(kind, one), PlankNine.NO);
            }
        }
        for (int kind = 0; kind <= 5; kind++) {
            int as = kind;
            for (int p : Check.beyond(0, 3)) {
                check.changesNothing("kind " + kind + " of " + p, KindsBoundsTest::crowd, x -> x.rate(as, p), PlankNine.NO);
            }
            check.changesNothing("nobody at all", PlankNine::new, x -> x.rate(as, 0), PlankNine.NO);
        }
        check.changesNothing("neither", KindsBoundsTest::crowd, x -> x.rate(6, 4), PlankNine.NO);
        check.changesNothing("neither below", KindsBoundsTest::crowd, x -> x.rate(-1, -1), PlankNine.NO);
    }

    private static void traceAtFirst() {
        check.sentence("numbers in brackets are added to THE TRACE, 0 at first");
        check.due("a new one", new PlankNine().trace(), 0);
        check.due("a told one", crowd().trace(), 0);
        PlankNine x = crowd();
        x.go(0, 0, 1);
        x.days(9);
        x.all(1);
        x.keep(0);
        check.due("no other call asks a body", x.trace(), 0);
    }

    private static void traceOfBodies() {
        check.sentence("as often as rate() asks that body");
        int[] due = {1, 11, 101, 1011, 10101, 100001};
        for (int kind = 0; kind <= 5; kind++) {
            PlankNine x = crowd();
            for (int times = 1; times <= 12; times++) {
                x.rate(kind, times % 4);
                check.due(times + " of kind " + kind, x.trace(), (long) times * due[kind]);
            }
        }
        PlankNine x = Check.told("person 1 1;");
        for (int times = 0; times < 500; times++) {
            x.rate(5, 0);
        }
        check.due("as many as calls can be", x.trace(), 50000500L);
    }

    private static void traceStays() {
        check.sentence("(what PLANKS BEAR, which WENT, with whom); nothing else.");
        PlankNine x = crowd();
        x.keep(0);
        x.rate(3, 0);
        x.back(0);
        check.due("back", x.trace(), 1011);
        x.clear();
        Check.say(x, "?");
        x.marsh();
        check.due("a fault", x.trace(), 1011);
        x.clear();
        x.marsh();
        check.due("read anew", x.trace(), 1011);
        check.due("trace itself", x.trace(), 1011);
    }

    // ---- images

    private static void howManyAreNotUnder() {
        check.sentence("An IMAGE is kept: how many PLANKS are not under. BAD.");
        for (int above = 0; above <= 9; above++) {
            PlankNine x = Check.told("plank 0 1 0;".repeat(9 - above) + "plank 0 1 1;".repeat(above));
            check.due("keep", x.keep(0), above);
            x.cart(0);
            x.cart(8);
            check.due("back", x.back(0), above);
        }
        check.due("no planks", new PlankNine().keep(1), 0);
    }

    private static void imagesKeepNow() {
        check.sentence("IMAGES 0, 1 keep NOW (what PLANKS BEAR, which WENT, with whom)");
        for (int image = 0; image <= 1; image++) {
            PlankNine x = Check.told("plank 0 1 1;plank 1 2 1;plank 2 3 4;person 1 1;person 1 1;");
            x.steps(1, 1);
            x.keep(image);
            String kept = Sight.now(x);
            x.steps(0, 0);
            x.frost();
            x.cart(1);
            x.exchange(0, 2);
            check.due("back", x.back(image), 2);
            check.alike("all of that", Sight.now(x), kept);
            check.due("another one behind it", x.steps(0, 0), 0);
            check.due("which", x.went(1, 0), 0);
            check.due("back again", x.back(image), 2);
            check.alike("the image was not worn", Sight.now(x), kept);
            x.steps(0, 2);
            check.due("kept anew", x.keep(image), 2);
            x.cart(2);
            x.back(image);
            check.due("the newer one", x.plank(2, 2), 3);
        }
    }

    private static void imagesKeepNothingElse() {
        check.sentence("keep NOW (what PLANKS BEAR, which WENT, with whom); nothing else.");
        PlankNine x = Check.told("marsh 5;plank 0 4 3;person 1 2;errand 0 4 0;");
        Check.say(x, "plank");
        x.keep(0);
        Check.say(x, " 0 1 8;");
        x.rate(0, 0);
        x.back(0);
        check.due("THE TEXT stays", x.count(6), 12);
        check.due("THE TRACE stays", x.trace(), 1);
        check.due("it is read whole", x.marsh(), 1);
        check.due("what it told", x.plank(0, 2), 8);
    }

    private static void imagesAreApart() {
        check.sentence("IMAGES 0, 1 keep NOW");
        PlankNine x = Check.told("plank 0 1 6;person 3 1;");
        x.keep(0);
        x.steps(0, 0);
        x.keep(1);
        x.steps(0, 0);
        check.due("since 0", x.spent(0, 0), 6);
        check.due("since 1", x.spent(1, 0), 3);
        check.due("back to 1", x.back(1), 1);
        check.due("3", x.plank(0, 2), 3);
        check.due("back to 0", x.back(0), 1);
        check.due("6", x.plank(0, 2), 6);
        check.due("0 as 1 was", x.back(1), 1);
        x.keep(0);
        x.cart(0);
        x.back(0);
        check.due("3 again", x.plank(0, 2), 3);
    }

    private static void imagesOfTwenty() {
        check.sentence("which WENT, with whom");
        PlankNine x = Check.told("plank 0 1 3;plank 1 2 3;person 3 1;person 3 1;");
        x.keep(0);
        for (int times = 0; times < 21; times++) {
            x.steps(times % 2, 0);
            x.cart(0);
            x.steps(0, 0);
            x.steps(0, 0);
        }
        check.due("20 known", x.count(4), 20);
        x.keep(1);
        check.due("back to none", x.back(0), 2);
        check.due("none", x.count(4), 0);
        check.due("none is known", x.went(0, 0), -5);
        x.steps(1, 1);
        check.due("there is room again", x.went(0, 0), 1);
        check.due("and no more", x.count(4), 1);
        check.due("back to 20", x.back(1), 2);
        check.due("20", x.count(4), 20);
        for (int i = 0; i < 20; i++) {
            check.due("which", x.went(i, 0), 0);
            check.due("with whom", x.went(i, 1), i % 2);
        }
        check.due("not one more", x.went(20, 0), -5);
        x.steps(1, 1);
        check.due("still full", x.count(4), 20);
    }

    private static PlankNine kept(int image) {
        PlankNine x = Check.told("plank 0 1 5;plank 0 1 3;person 3 1;");
        x.keep(image);
        x.steps(0, 1);
        return x;
    }

    private static void keepRefused() {
        check.sentence("how many PLANKS are not under. BAD.");
        for (int image : Check.beyond(0, 1)) {
            check.changesNothing("keep " + image, () -> kept(0), x -> x.keep(image), PlankNine.BAD);
            check.changesNothing("keep " + image + " of 1", () -> kept(1), x -> x.keep(image), PlankNine.BAD);
            check.changesNothing("keep " + image + " of none", PlankNine::new, x -> x.keep(image), PlankNine.BAD);
        }
    }

    private static void backRefused() {
        check.sentence("All of that becomes as an IMAGE has it: how many PLANKS are not under. BAD; STATE: none was kept.");
        check.changesNothing("1 of 0", () -> kept(0), x -> x.back(1), PlankNine.STATE);
        check.changesNothing("0 of 1", () -> kept(1), x -> x.back(0), PlankNine.STATE);
        check.changesNothing("0 of none", PlankNine::new, x -> x.back(0), PlankNine.STATE);
        check.changesNothing("1 of none", PlankNine::new, x -> x.back(1), PlankNine.STATE);
        for (int image : Check.beyond(0, 1)) {
            check.changesNothing("back " + image, () -> kept(0), x -> x.back(image), PlankNine.BAD);
            check.changesNothing("BAD ahead of STATE: " + image, PlankNine::new, x -> x.back(image), PlankNine.BAD);
        }
    }

    private static void backOfAnEmptyOne() {
        check.sentence("STATE: none was kept.");
        PlankNine x = new PlankNine();
        check.due("kept where nothing is", x.keep(0), 0);
        check.due("back to nothing", x.back(0), 0);
        check.due("the other one was not", x.back(1), PlankNine.STATE);
        x.marsh();
        check.due("gone by reading", x.back(0), PlankNine.STATE);
    }

    // ---- count

    private static void countsAtTheirEnds() {
        check.sentence("0 PLACES, 1 PLANKS, 2 PEOPLE, 3 ERRANDS, 4 how many WENT (known), 5 what all PLANKS BEAR, 6 bytes of THE TEXT.");
        PlankNine x = new PlankNine();
        int[] least = {4, 0, 0, 0, 0, 0, 0};
        for (int what = 0; what <= 6; what++) {
            check.due("least " + what, x.count(what), least[what]);
        }
        x = Check.told("marsh 6;" + "plank 0 1 9;".repeat(9) + "person 3 1;".repeat(4) + "errand 0 0 1;".repeat(3));
        check.due("borne", x.count(5), 81);
        for (int round = 0; round < 3; round++) {
            check.due("27 errands", x.days(9), 0);
            for (int k = 0; k < 9; k++) {
                check.due("all were under", x.cart(k), 0);
            }
        }
        Check.say(x, " ".repeat(300));
        int[] most = {6, 9, 4, 3, 20, 81, 300};
        for (int what = 0; what <= 6; what++) {
            check.due("most " + what, x.count(what), most[what]);
        }
    }

    private static void countRefused() {
        check.sentence("6 bytes of THE TEXT. BAD.");
        for (int what : Check.beyond(0, 6)) {
            check.changesNothing("what " + what, KindsBoundsTest::crowd, x -> x.count(what), PlankNine.BAD);
        }
    }

    private static void asksThatChangeNothing() {
        check.sentence("Nothing is promised beyond the answers and state changes described above");
        for (int what = 0; what <= 6; what++) {
            int asked = what;
            check.changesNothing("count", KindsBoundsTest::crowd, x -> x.count(asked), new int[] {4, 5, 4, 0, 0, 15, 0}[what]);
        }
        check.changesNothing("trace", KindsBoundsTest::crowd, PlankNine::trace, 0);
        check.changesNothing("plank", KindsBoundsTest::crowd, x -> x.plank(4, 2), 9);
        check.changesNothing("person", KindsBoundsTest::crowd, x -> x.person(3, 0), 3);
        check.changesNothing("way", KindsBoundsTest::crowd, x -> x.way(3, 0, 1, 0), 3);
        check.changesNothing("went", () -> kept(0), x -> x.went(0, 0), 1);
    }
}
