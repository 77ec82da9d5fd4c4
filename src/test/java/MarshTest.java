/** Promises 1 to 7: a new object, type, clear, marsh, plank, person, errand. */
public final class MarshTest {
    private static final String NINE_PLANKS = "plank 0 1 1;".repeat(9);
    private static final Check check = new Check("MarshTest");

    public static void main(String[] args) {
        newObject();
        typing();
        typingFull();
        clearing();
        readingWell();
        readingBlanks();
        readingAnew();
        faultsOfTokens();
        faultsOfNumbers();
        faultsOfItems();
        faultsAtTheEnd();
        faultChangesNothing();
        planks();
        people();
        errands();
        check.finish();
    }

    private static void newObject() {
        PlankNine x = new PlankNine();
        check.due("places", x.count(0), 4);
        for (int what = 1; what <= 6; what++) {
            check.due("count(" + what + ") of a new one", x.count(what), 0);
        }
        check.due("no plank", x.plank(0, 2), PlankNine.BAD);
        check.due("nobody", x.person(0, 0), PlankNine.BAD);
        check.due("no errand", x.errand(0, 0), PlankNine.BAD);
        check.due("place 3 is there", x.often(1, 0, 3, 0), 0);
        check.due("place 4 is not", x.often(1, 0, 4, 0), PlankNine.BAD);
        check.due("trace", x.trace(), 0);
        check.due("no image 0", x.back(0), PlankNine.STATE);
        check.due("no image 1", x.back(1), PlankNine.STATE);
    }

    private static void typing() {
        PlankNine x = new PlankNine();
        check.due("n 0", x.type(0, 0), PlankNine.BAD);
        check.due("n 9", x.type(0, 9), PlankNine.BAD);
        check.due("n -1", x.type(0, -1), PlankNine.BAD);
        check.due("n least", x.type(0, Integer.MIN_VALUE), PlankNine.BAD);
        check.due("nothing came", x.count(6), 0);
        // The highest of the lowest n comes first, what is above them does not come.
        check.due("3 bytes", x.type(Check.packed("??per"), 3), 3);
        check.due("5 bytes", x.type(Check.packed("XYZson 1"), 5), 8);
        check.due("1 byte", x.type(Check.packed(" "), 1), 9);
        check.due("8 bytes", x.type(Check.packed("2;      "), 8), 17);
        check.due("read", x.marsh(), 1);
        check.due("weight", x.person(0, 0), 1);
        check.due("stride", x.person(0, 1), 2);
        x.type(-1L, 8);
        check.due("bytes of 255 begin no token", x.marsh(), -10);
    }

    private static void typingFull() {
        PlankNine x = new PlankNine();
        for (int i = 1; i <= 37; i++) {
            check.due("blanks", x.type(Check.packed("        "), 8), 8 * i);
        }
        check.due("296 and 5", x.type(0, 5), PlankNine.FULL);
        check.due("296 and 8", x.type(0, 8), PlankNine.FULL);
        check.due("BAD ahead of FULL", x.type(0, 9), PlankNine.BAD);
        check.due("nothing changed", x.count(6), 296);
        check.due("296 and 3", x.type(Check.packed("   "), 3), 299);
        check.due("299 and 2", x.type(0, 2), PlankNine.FULL);
        check.due("299 and 1", x.type(Check.packed(" "), 1), 300);
        check.due("300 and 1", x.type(0, 1), PlankNine.FULL);
        check.due("BAD when full", x.type(0, 0), PlankNine.BAD);
        check.due("300 blanks tell nothing", x.marsh(), 0);
        check.due("room again", x.type(0, 8), 8);
    }

    private static void clearing() {
        PlankNine x = new PlankNine();
        check.due("empty", x.clear(), 0);
        Check.say(x, "person 1 1;plank");
        check.due("had", x.clear(), 16);
        check.due("has", x.count(6), 0);
        check.due("has none", x.clear(), 0);
        Check.say(x, "person 3 2;");
        check.due("only what came behind", x.marsh(), 1);
        check.due("weight", x.person(0, 0), 3);
        Check.say(x, "person 1 1;");
        check.due("clear leaves what was told", x.clear(), 11);
        check.due("people stay", x.count(2), 1);
    }

    private static void readingWell() {
        reads("", 0);
        reads("marsh 2;", 1);
        reads("marsh 6;", 1);
        reads("plank 0 3 0;", 1);
        reads("plank 3 0 9;", 1);
        reads("person 3 2;person 1 1;errand 1 0 3;plank 1 2 4;", 4);
        reads("marsh 6;" + NINE_PLANKS + "person 1 1;".repeat(4) + "errand 3 5 0;".repeat(3), 17);
        PlankNine x = Check.told("marsh 6;plank 5 0 7;");
        check.due("places", x.count(0), 6);
        check.due("planks", x.count(1), 1);
        check.due("THE TEXT is empty then", x.count(6), 0);
    }

    private static void readingBlanks() {
        reads("   marsh   3  ;  plank  0   2 5   ;   ", 2);
        reads("marsh3;plank0 1 5;person1 1;errand0 0 2;", 4);
        PlankNine x = Check.told("plank 0 1 5;person1 2;errand0 1 3;");
        check.due("stride without blanks", x.person(0, 1), 2);
        faults("plank 01 5;", 6);
        faults("marsh\t4;", 5);
        faults("marsh 4;\n", 8);
    }

    private static void readingAnew() {
        PlankNine x = Check.told("marsh 6;plank 0 1 1;plank 4 5 3;person 1 1;errand 0 0 5;");
        x.go(0, 0, 1);
        x.keep(0);
        x.keep(1);
        x.rate(0, 0);
        Check.say(x, "plank 2 3 4;");
        check.due("anew", x.marsh(), 1);
        check.due("four places when no marsh is told", x.count(0), 4);
        check.due("planks", x.count(1), 1);
        check.due("people", x.count(2), 0);
        check.due("errands", x.count(3), 0);
        check.due("none went", x.count(4), 0);
        check.due("sum", x.count(5), 4);
        check.due("image 0 is gone", x.back(0), PlankNine.STATE);
        check.due("image 1 is gone", x.tell(1), PlankNine.STATE);
        check.due("the trace stays", x.trace(), 1);
        x.keep(0);
        check.due("an empty text tells all, too", x.marsh(), 0);
        check.due("no planks", x.count(1), 0);
        check.due("image gone", x.spent(0, -1), PlankNine.STATE);
    }

    private static void faultsOfTokens() {
        faults("x", 0);
        faults("mars 4;", 0);
        faults("marshs 4;", 0);
        faults("Plank 0 1 2;", 0);
        faults("  plan", 2);
        faults(";", 0);
        faults("4;", 0);
        faults("marsh 4;;", 8);
        faults("marsh 4,", 7);
        faults("marsh -4;", 6);
        faults("plank 0 1 plank", 10);
        faults("plank 0 1 person 2 1;", 10);
        faults("plank 0 1 qq;", 10);
        faults("person 1 1 1;", 11);
        faults("marsh marsh", 6);
        faults("person;", 6);
        faults("person 1;", 8);
        faults("errand;", 6);
        faults("plank 0 1;", 9);
        faults("person 1 1;{", 11);
        faults("person 1 1;`", 11);
        faults("person 1 1;/", 11);
        faults("person 1 1;:", 11);
        faults("person 1 1;" + (char) 0, 11);
        faults("person 1 1;" + (char) 160, 11);
        // 112 less 256, should a byte be taken with its sign.
        faults("person 1 1;" + (char) 240, 11);
    }

    private static void faultsOfNumbers() {
        faults("marsh 0;", 6);
        faults("marsh 1;", 6);
        faults("marsh 7;", 6);
        faults("marsh 04;", 6);
        faults("marsh 00;", 6);
        faults("marsh 99;", 6);
        faults("marsh 100;", 6);
        faults("marsh 4294967300;", 6);
        faults("marsh " + "9".repeat(290) + ";", 6);
        faults("marsh 18446744073709551620;", 6);
        faults("plank 4 0 1;", 6);
        faults("plank 0 4 1;", 8);
        faults("plank 2 2 1;", 8);
        faults("plank 0 1 10;", 10);
        faults("plank 0 1 00;", 10);
        faults("plank 0 01 5;", 8);
        faults("person 0 1;", 7);
        faults("person 4 1;", 7);
        faults("person 1 0;", 9);
        faults("person 1 3;", 9);
        faults("marsh 3;plank 3 0 1;", 14);
        faults("marsh 5;plank 4 5 1;", 16);
        faults("errand 0 0 1;", 7);
        faults("person 1 1;errand 1 0 1;", 18);
        faults("person 1 1;errand 0 4 1;", 20);
        faults("person 1 1;errand 0 0 4;", 22);
        faults("person 1 1;errand 0 3 3;", 22);
    }

    private static void faultsOfItems() {
        faults("marsh 4;marsh 4;", 8);
        faults("plank 0 1 1; marsh 4;", 13);
        faults("person 1 1;marsh 4;", 11);
        faults(NINE_PLANKS + "plank 0 1 1;", 108);
        faults(NINE_PLANKS + "plank", 108);
        faults(NINE_PLANKS + "planks", 108);
        faults("person 1 1;".repeat(5), 44);
        faults("person 1 1;" + "errand 0 0 1;".repeat(4), 50);
        // A person that is told later was not told.
        faults("person 1 1;errand 1 0 1;person 1 1;", 18);
    }

    private static void faultsAtTheEnd() {
        faults("marsh", 5);
        faults("marsh ", 6);
        faults("marsh 4", 7);
        faults("marsh 4   ", 10);
        faults("plank 0", 7);
        faults("plank 0 1", 9);
        faults("plank 0 1 2", 11);
        faults("person 1 1;errand 0 1 2", 23);
        faults("person 1 1;errand", 17);
        faults("p", 0);
    }

    private static void faultChangesNothing() {
        PlankNine x = Check.told("marsh 5;plank 0 4 2;person 2 1;errand 0 0 4;");
        x.go(0, 0, 4);
        x.keep(1);
        Check.say(x, "marsh 2;plank 0 1 9;person 1 2;errand 0 0 1;x");
        check.due("fault", x.marsh(), -10 - 44);
        check.due("fault again", x.marsh(), -10 - 44);
        check.due("text stays", x.count(6), 45);
        check.due("places", x.count(0), 5);
        check.due("plank B", x.plank(0, 1), 4);
        check.due("plank bears", x.plank(0, 2), 0);
        check.due("stride", x.person(0, 1), 1);
        check.due("errand to", x.errand(0, 2), 4);
        check.due("went", x.count(4), 1);
        check.due("image", x.spent(1, -1), 0);
    }

    private static void planks() {
        PlankNine x = Check.told("plank 3 1 7;plank 0 2 0;");
        check.due("A", x.plank(0, 0), 3);
        check.due("B", x.plank(0, 1), 1);
        check.due("bears", x.plank(0, 2), 7);
        check.due("A of 1", x.plank(1, 0), 0);
        check.due("B of 1", x.plank(1, 1), 2);
        check.due("1 is under", x.plank(1, 2), 0);
        check.due("what 3", x.plank(0, 3), PlankNine.BAD);
        check.due("what -1", x.plank(0, -1), PlankNine.BAD);
        check.due("no 2", x.plank(2, 0), PlankNine.BAD);
        check.due("no 9", x.plank(9, 0), PlankNine.BAD);
        check.due("no -1", x.plank(-1, 0), PlankNine.BAD);
        check.due("told ones bear, no others", x.count(5), 7);
    }

    private static void people() {
        PlankNine x = Check.told("person 3 1;person 1 2;");
        check.due("weight", x.person(0, 0), 3);
        check.due("stride", x.person(0, 1), 1);
        check.due("weight of 1", x.person(1, 0), 1);
        check.due("stride of 1", x.person(1, 1), 2);
        check.due("what 2", x.person(0, 2), PlankNine.BAD);
        check.due("what -1", x.person(0, -1), PlankNine.BAD);
        check.due("no 2", x.person(2, 0), PlankNine.BAD);
        check.due("no 4", x.person(4, 0), PlankNine.BAD);
        check.due("no -1", x.person(-1, 1), PlankNine.BAD);
    }

    private static void errands() {
        PlankNine x = Check.told("person 1 1;person 1 1;errand 1 3 0;errand 0 1 2;");
        check.due("who", x.errand(0, 0), 1);
        check.due("from", x.errand(0, 1), 3);
        check.due("to", x.errand(0, 2), 0);
        check.due("who of 1", x.errand(1, 0), 0);
        check.due("from of 1", x.errand(1, 1), 1);
        check.due("to of 1", x.errand(1, 2), 2);
        check.due("what 3", x.errand(0, 3), PlankNine.BAD);
        check.due("what -1", x.errand(0, -1), PlankNine.BAD);
        check.due("no 2", x.errand(2, 0), PlankNine.BAD);
        check.due("no 3", x.errand(3, 0), PlankNine.BAD);
        check.due("no -1", x.errand(-1, 0), PlankNine.BAD);
    }

    private static void reads(String text, int items) {
        PlankNine x = new PlankNine();
        Check.say(x, text);
        check.due("items of '" + text + "'", x.marsh(), items);
    }

    private static void faults(String text, int place) {
        PlankNine x = new PlankNine();
        Check.say(x, text);
        check.due("fault of '" + text + "'", x.marsh(), -10 - place);
        check.due("length of '" + text + "'", x.count(6), text.length());
    }
}
