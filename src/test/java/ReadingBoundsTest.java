import java.util.List;

/** Boundary cases of reading THE TEXT: promise 4, and what plank, person, errand tell of it (5 to 7). */
public final class ReadingBoundsTest {
    private static final String PLANK = "plank 0 1 1;";
    private static final String PERSON = "person 1 1;";
    private static final String ERRAND = "errand 0 0 1;";
    private static final Check check = new Check("ReadingBoundsTest");

    public static void main(String[] args) {
        places();
        placesWithin();
        fourWhenNotTold();
        ninePlanks();
        whatAPlankBears();
        fourPeople();
        weights();
        strides();
        threeErrands();
        unlikePlaces();
        whoWasTold();
        theFullestMarsh();
        blanks();
        everyByteBehindAnItem();
        everyByteBehindANumber();
        everyByteBehindAWord();
        words();
        numbers();
        marshIsFirst();
        endsTooEarly();
        firstOfTwoFaults();
        tokensThatCannotStand();
        faultChangesNothing();
        readAnew();
        emptyText();
        tellingOfPlanks();
        tellingOfPeople();
        tellingOfErrands();
        check.finish();
    }

    // ---- how many, and within which numbers

    private static void places() {
        check.sentence("n 2 ..");
        check.sentence("6; 4 at first)");
        for (int n = 0; n <= 101; n++) {
            if (n >= 2 && n <= 6) {
                PlankNine x = reads("marsh " + n + ";", 1);
                check.due("PLACES", x.count(0), n);
                check.due("the last PLACE of " + n, x.often(1, 0, n - 1, 0), 0);
                check.due("none behind it", x.often(1, 0, n, 0), PlankNine.BAD);
                check.due("none behind it, first", x.often(1, n, 0, 0), PlankNine.BAD);
            } else {
                faults("marsh " + n + ";", 6);
            }
        }
    }

    private static void placesWithin() {
        check.sentence("PLACES 0 .. n - 1");
        for (int n = 2; n <= 6; n++) {
            String marsh = "marsh " + n + ";";
            int last = n - 1;
            reads(marsh + "plank 0 " + last + " 1;", 2);
            reads(marsh + "plank " + last + " 0 1;", 2);
            faults(marsh + "plank " + n + " 0 1;", 14);
            faults(marsh + "plank 0 " + n + " 1;", 16);
            reads(marsh + PERSON + "errand 0 0 " + last + ";", 3);
            reads(marsh + PERSON + "errand 0 " + last + " 0;", 3);
            faults(marsh + PERSON + "errand 0 " + n + " 0;", 28);
            faults(marsh + PERSON + "errand 0 0 " + n + ";", 30);
        }
        reads("plank 3 0 1;", 1);
        faults("plank 4 0 1;", 6);
        faults("plank 0 4 1;", 8);
    }

    private static void fourWhenNotTold() {
        check.sentence("THE TEXT tells all, and is empty then: how many ITEMS.");
        for (int n = 2; n <= 6; n++) {
            PlankNine x = Check.told("marsh " + n + ";");
            check.due("nothing is told", x.marsh(), 0);
            check.due("four again behind " + n, x.count(0), 4);
            check.due("place 3", x.often(1, 0, 3, 0), 0);
            check.due("place 4", x.often(1, 0, 4, 0), PlankNine.BAD);
        }
        PlankNine x = Check.told("marsh 6;plank 0 5 1;");
        Check.say(x, "plank 0 4 1;");
        check.due("as if of four", x.marsh(), -18);
        check.due("still six", x.count(0), 6);
        x = Check.told("marsh 2;");
        Check.say(x, "plank 0 3 1;");
        check.due("as if of four, behind two", x.marsh(), 1);
    }

    private static void ninePlanks() {
        check.sentence("PLANKS 0 .. (9 at most) join two PLACES");
        PlankNine x = reads(PLANK.repeat(8) + "plank 2 3 4;", 9);
        check.due("nine", x.count(1), 9);
        check.due("the ninth is 8", x.plank(8, 2), 4);
        check.due("its end", x.plank(8, 1), 3);
        check.due("no 9", x.plank(9, 2), PlankNine.BAD);
        check.sentence("a tenth plank");
        faults(PLANK.repeat(10), 108);
        faults(PLANK.repeat(9) + "plank", 108);
        faults(PLANK.repeat(9) + "  plank 0 1 1;", 110);
        faults(PLANK.repeat(4) + PERSON + PLANK.repeat(5) + ERRAND + PLANK, 132);
        reads(PLANK.repeat(9) + PERSON, 10);
    }

    private static void whatAPlankBears() {
        check.sentence("BEAR so many steps (0 .. 9; 0: it is under)");
        for (int bears = 0; bears <= 100; bears++) {
            if (bears <= 9) {
                check.due("bears", reads("plank 0 1 " + bears + ";", 1).plank(0, 2), bears);
            } else {
                faults("plank 0 1 " + bears + ";", 10);
            }
        }
        check.due("one that bears 0 is under", Check.told("plank 0 1 0;plank 0 1 1;").keep(0), 1);
        check.due("told as under, it did not go under", Check.told("plank 0 1 0;").count(4), 0);
    }

    private static void fourPeople() {
        check.sentence("PEOPLE 0 .. (4 at most)");
        PlankNine x = reads(PERSON.repeat(3) + "person 3 2;", 4);
        check.due("four", x.count(2), 4);
        check.due("the fourth is 3", x.person(3, 0), 3);
        check.due("no 4", x.person(4, 0), PlankNine.BAD);
        check.sentence("a fifth person");
        faults(PERSON.repeat(5), 44);
        faults(PERSON.repeat(4) + "person", 44);
        faults(PERSON.repeat(2) + PLANK + PERSON.repeat(2) + " " + PERSON, 57);
        reads(PERSON.repeat(4) + PLANK, 5);
    }

    private static void weights() {
        check.sentence("WEIGHT (1 .. 3)");
        for (int weight = 0; weight <= 100; weight++) {
            if (weight >= 1 && weight <= 3) {
                check.due("weight", reads("person " + weight + " 1;", 1).person(0, 0), weight);
            } else {
                faults("person " + weight + " 1;", 7);
            }
        }
    }

    private static void strides() {
        check.sentence("STRIDE (1, 2)");
        for (int stride = 0; stride <= 100; stride++) {
            if (stride >= 1 && stride <= 2) {
                check.due("stride", reads("person 1 " + stride + ";", 1).person(0, 1), stride);
            } else {
                faults("person 1 " + stride + ";", 9);
            }
        }
    }

    private static void threeErrands() {
        check.sentence("ERRANDS (3 at most): one of the PEOPLE from a PLACE to another one.");
        PlankNine x = reads(PERSON + ERRAND.repeat(2) + "errand 0 3 2;", 4);
        check.due("three", x.count(3), 3);
        check.due("the third is 2", x.errand(2, 1), 3);
        check.due("no 3", x.errand(3, 1), PlankNine.BAD);
        check.sentence("a fourth errand");
        faults(PERSON + ERRAND.repeat(4), 50);
        faults(PERSON + ERRAND.repeat(3) + "errand", 50);
        faults(PERSON + ERRAND + PERSON + ERRAND.repeat(2) + PLANK + ERRAND, 73);
        reads(PERSON + ERRAND.repeat(3) + PERSON, 5);
    }

    private static void unlikePlaces() {
        check.sentence("(A, B not one and the same)");
        check.sentence("a B that is A");
        for (int a = 0; a <= 5; a++) {
            for (int b = 0; b <= 5; b++) {
                String plank = "marsh 6;plank " + a + " " + b + " 5;";
                String errand = "marsh 6;" + PERSON + "errand 0 " + a + " " + b + ";";
                if (a == b) {
                    faults(plank, 16);
                    faults(errand, 30);
                } else {
                    check.due("A", reads(plank, 2).plank(0, 0), a);
                    check.due("B", reads(plank, 2).plank(0, 1), b);
                    check.due("from", reads(errand, 3).errand(0, 1), a);
                    check.due("to", reads(errand, 3).errand(0, 2), b);
                }
            }
        }
        // Not alike are who and where from, or a place and what the plank bears.
        reads(PERSON + PERSON + "errand 1 1 0;errand 0 1 0;", 4);
        reads("plank 1 2 1;plank 1 2 2;", 2);
    }

    private static void whoWasTold() {
        check.sentence("a P that was not told");
        faults(ERRAND, 7);
        for (int people = 1; people <= 4; people++) {
            String told = PERSON.repeat(people);
            check.due("the last of " + people, reads(told + "errand " + (people - 1) + " 0 1;", people + 1).errand(0, 0), people - 1);
            faults(told + "errand " + people + " 0 1;", 11 * people + 7);
        }
        faults(PERSON + "errand 1 0 1;" + PERSON, 18);
        reads(PERSON + "errand 0 0 1;" + PERSON + "errand 1 0 1;", 4);
        // Who was told by the text before this one was not told by this one.
        PlankNine x = Check.told(PERSON);
        Check.say(x, ERRAND);
        check.due("nobody of before", x.marsh(), -17);
    }

    private static void theFullestMarsh() {
        check.sentence("how many ITEMS");
        PlankNine x = reads("marsh 6;" + "plank 4 5 9;".repeat(9) + "person 3 2;".repeat(4) + "errand 3 5 4;".repeat(3), 17);
        check.alike("the fullest", Sight.now(x), " counts: 6 9 4 3 0 81 0 ends:" + " 4 5".repeat(9) + " people:" + " 3 2".repeat(4)
            + " errands:" + " 3 5 4".repeat(3) + " bear:" + " 9".repeat(9) + " went: -5"
            + " spent0:" + " -2".repeat(10) + " tell -2 spent1:" + " -2".repeat(10) + " tell -2 trace 0");
    }

    // ---- bytes, words, numbers

    private static void blanks() {
        check.sentence("read byte by byte, blanks (32) between TOKENS");
        String[] tokens = {"marsh", "3", ";", "plank", "0", "2", "5", ";", "person", "1", "2", ";", "errand", "0", "1", "0", ";"};
        reads(String.join(" ", tokens), 4);
        reads(String.join("   ", tokens), 4);
        reads("  " + String.join(" ", tokens) + "  ", 4);
        reads(" ", 0);
        // None is needed where a token ends by itself; where none does, two are one.
        reads("marsh3;plank0 2 5;person1 2;errand0 1 0;", 4);
        faults("plank 02 5;", 6);
        faults("plank 0 25;", 8);
        faults("plankplank", 0);
        faults("mar sh 3;", 0);
        faults("person 1 1 ; plank 0 1 1 0;", 25);
    }

    private static void everyByteBehindAnItem() {
        check.sentence("of a byte that begins none, a word that is none of these");
        for (int b = 0; b < 256; b++) {
            if (b == ' ') {
                reads(PERSON + (char) b, 1);
            } else {
                faults(PERSON + (char) b, 11);
            }
            if (b != ' ') {
                faults("" + (char) b, 0);
                faults((char) b + PERSON, 0);
            }
        }
    }

    private static void everyByteBehindANumber() {
        check.sentence("of a byte that begins none");
        for (int b = 0; b < 256; b++) {
            String text = "person 1 1" + (char) b + " ;";
            if (b == ' ') {
                reads(text, 1);
            } else if (b == ';') {
                faults(text, 12);
            } else {
                faults(text, b >= '0' && b <= '9' ? 9 : 10);
            }
        }
    }

    private static void everyByteBehindAWord() {
        check.sentence("words of letters a .. z (marsh, plank, person, errand), NUMBERS and ; .");
        for (int b = 0; b < 256; b++) {
            String text = "person" + (char) b + " 1 1;";
            if (b == ' ') {
                reads(text, 1);
            } else if (b >= 'a' && b <= 'z') {
                faults(text, 0);
            } else {
                // 1, 2, 3 may be a weight, and 1 a stride: it is the number behind them that is one too many.
                faults(text, b >= '1' && b <= '3' ? 10 : 6);
            }
        }
    }

    private static void words() {
        check.sentence("a word that is none of these");
        for (String word : List.of("marsh", "plank", "person", "errand")) {
            faults(word.substring(1) + " 3 2;", 0);
            faults(word.substring(0, word.length() - 1) + " 3 2;", 0);
            faults(word + "s 3 2;", 0);
            faults(word + word + " 3 2;", 0);
            faults(word.toUpperCase() + " 3 2;", 0);
            faults(word.substring(0, 1).toUpperCase() + word.substring(1) + " 3 2;", 0);
            // A capital ends the word, and what is ahead of it is none of these.
            faults(word.substring(0, word.length() - 1) + word.substring(word.length() - 1).toUpperCase() + " 3 2;", 0);
            for (int i = 0; i < word.length(); i++) {
                faults(word.substring(0, i) + 'z' + word.substring(i + 1) + " 3 2;", 0);
                faults("  " + word.substring(0, i) + 'a' + "q" + word.substring(i + 1) + " 3 2;", 2);
            }
            faults("plank 0 1 " + word + ";", 10);
            faults("plank " + word + ";", 6);
        }
        faults("plank 0 1 z;", 10);
        faults("a", 0);
        faults("z", 0);
    }

    private static void numbers() {
        check.sentence("a NUMBER above 99 or with a 0 ahead of others");
        for (String number : List.of("100", "101", "256", "258", "65538", "4294967298", "18446744073709551618", "99999999999999999999")) {
            faults("marsh " + number + ";", 6);
            faults("plank " + number + " 1 1;", 6);
            faults("plank 0 " + number + " 1;", 8);
            faults("plank 0 1 " + number + ";", 10);
            faults("person " + number + " 1;", 7);
            faults("person 1 " + number + ";", 9);
            faults(PERSON + "errand " + number + " 0 1;", 18);
            faults(PERSON + "errand 0 " + number + " 1;", 20);
            faults(PERSON + "errand 0 1 " + number + ";", 22);
        }
        for (String number : List.of("00", "01", "02", "03", "002", "000", "0000000002", "099", "0100")) {
            faults("marsh " + number + ";", 6);
            faults("plank " + number + " 1 1;", 6);
            faults("plank 0 " + number + " 1;", 8);
            faults("plank 3 2 " + number + ";", 10);
            faults("person " + number + " 1;", 7);
            faults("person 1 " + number + ";", 9);
            faults(PERSON + "errand " + number + " 0 1;", 18);
            faults(PERSON + "errand 0 0 " + number + ";", 22);
        }
        check.due("a 0 alone is a NUMBER", reads("plank 0 1 0;", 1).plank(0, 2), 0);
        faults("plank 0 1 -1;", 10);
        faults("plank 0 1 +1;", 10);
        faults("plank 0 1 1.;", 11);
        faults("100", 0);
        faults("1", 0);
        faults("marsh 4 100;", 8);
    }

    private static void marshIsFirst() {
        check.sentence("marsh N (the first of all, if it is told)");
        check.sentence("marsh behind another ITEM");
        reads("marsh 4;" + PLANK, 2);
        faults("marsh 4;marsh 4;", 8);
        faults("marsh 4;marsh", 8);
        faults(PLANK + "marsh 4;", 12);
        faults(PERSON + " marsh 4;", 12);
        faults(PERSON + ERRAND + "marsh 4;", 24);
        faults("marsh 6;" + PLANK + "marsh 6;", 20);
    }

    private static void endsTooEarly() {
        check.sentence("the text's length, if it ends too early.");
        String text = "marsh 5;plank 0 4 9; person 3 2 ;errand 0 4 0;";
        int items = 0;
        for (int length = 0; length <= text.length(); length++) {
            String begun = text.substring(0, length);
            if (begun.endsWith(";")) {
                items++;
            }
            int word = Math.max(Math.max(begun.lastIndexOf(' '), begun.lastIndexOf(';')), -1) + 1;
            String last = begun.substring(word);
            boolean isPartOfAWord = last.matches("[a-z]+") && !last.matches("marsh|plank|person|errand");
            boolean isBetweenItems = begun.isBlank() || begun.trim().endsWith(";");
            if (isBetweenItems) {
                reads(begun, items);
            } else {
                faults(begun, isPartOfAWord ? word : length);
            }
        }
        faults("marsh 4   ", 10);
        faults("marsh      ", 11);
        faults(PERSON + "  errand 0  ", 23);
    }

    private static void firstOfTwoFaults() {
        check.sentence("the first TOKEN that can't stand there");
        faults("plank 9 9 99;", 6);
        faults("plank 0 9 99;", 8);
        faults("plank 0 0 99;", 8);
        faults("plank 0 1 99", 10);
        faults("person 4 3;?", 7);
        faults("person 3 3;?", 9);
        faults("person 3 2 ?;", 11);
        faults("errand 0 9 9;", 7);
        faults(PERSON + "errand 0 9 9;", 20);
        faults("marsh 7;marsh 1;", 6);
        faults("marsh ? 100;", 6);
        faults("marsh 100 ?;", 6);
        faults("qq ?", 0);
        faults("? qq", 0);
    }

    private static void tokensThatCannotStand() {
        check.sentence("FAULT: the place of the first byte of the first TOKEN that can't stand there");
        faults(";", 0);
        faults("3;", 0);
        faults("  3;", 2);
        faults("marsh 4;;", 8);
        faults("marsh;", 5);
        faults("marsh 4 4;", 8);
        faults("marsh 4 plank 0 1 1;", 8);
        faults("plank;", 5);
        faults("plank 0;", 7);
        faults("plank 0 1;", 9);
        faults("plank 0 1 1 1;", 12);
        faults("person;", 6);
        faults("person 1;", 8);
        faults("person 1 1 1;", 11);
        faults(PERSON + "errand;", 17);
        faults(PERSON + "errand 0;", 19);
        faults(PERSON + "errand 0 0;", 21);
        faults(PERSON + "errand 0 0 1 1;", 24);
        faults("plank plank", 6);
        faults("plank 0 person", 8);
    }

    // ---- what a text changes

    private static PlankNine worn() {
        PlankNine x = Check.told("marsh 5;plank 0 4 2;plank 3 4 7;person 2 1;person 1 2;errand 0 0 4;");
        x.keep(1);
        x.go(0, 0, 4);
        x.rate(3, 1);
        return x;
    }

    private static void faultChangesNothing() {
        check.sentence("-10 less FAULT: nothing changes.");
        String all = "marsh 2;plank 0 1 9;person 1 2;errand 0 0 1;";
        for (String end : List.of("?", "x", "1", ";", "plank", "plank 0 2 1;", "marsh 2;", "errand 1 0 1;")) {
            PlankNine x = worn();
            Check.say(x, all + end);
            int fault = x.marsh();
            check.holds("a fault: " + end, fault <= -10 - all.length());
            check.due("the same again", x.marsh(), fault);
            PlankNine y = worn();
            Check.say(y, all + end);
            check.alike("what is there behind a fault: " + end, Sight.whole(x), Sight.whole(y));
        }
        PlankNine x = worn();
        Check.say(x, all + "plank");
        check.due("too early", x.marsh(), -10 - 49);
        Check.say(x, " 1 0 8;");
        check.due("THE TEXT stayed, and can go on", x.marsh(), 5);
        check.due("its last plank", x.plank(1, 2), 8);
    }

    private static void readAnew() {
        check.sentence("(Read anew: as told, none WENT, IMAGES are gone.)");
        PlankNine x = worn();
        x.keep(0);
        Check.say(x, "plank 2 3 4;");
        check.due("anew", x.marsh(), 1);
        check.alike("all is new but THE TRACE", Sight.whole(x), Sight.whole(tracedAlike("plank 2 3 4;")));
        x = worn();
        Check.say(x, "marsh 5;plank 0 4 2;plank 3 4 7;person 2 1;person 1 2;errand 0 0 4;");
        check.due("the same text", x.marsh(), 6);
        check.due("as told", x.plank(0, 2), 2);
        check.due("none WENT", x.count(4), 0);
        check.due("none WENT, the first", x.went(0, 0), -5);
        check.due("IMAGES are gone", x.back(1), PlankNine.STATE);
        check.due("IMAGES are gone, spent", x.spent(1, -1), PlankNine.STATE);
        check.due("IMAGES are gone, tell", x.tell(1), PlankNine.STATE);
        check.due("kept again", x.keep(1), 2);
        check.due("back again", x.back(1), 2);
    }

    /** Told by one text alone, with THE TRACE of a worn one. */
    private static PlankNine tracedAlike(String text) {
        PlankNine x = Check.told(PERSON);
        x.rate(3, 0);
        Check.say(x, text);
        x.marsh();
        return x;
    }

    private static void emptyText() {
        check.sentence("THE TEXT tells all, and is empty then");
        PlankNine x = worn();
        check.due("an empty text", x.marsh(), 0);
        check.alike("tells that nothing is there", Sight.whole(x), Sight.whole(tracedAlike("")));
        x = worn();
        Check.say(x, "    ");
        check.due("blanks", x.marsh(), 0);
        check.due("are gone, too", x.count(6), 0);
        check.due("no planks", x.count(1), 0);
    }

    // ---- what is told, asked

    private static void tellingOfPlanks() {
        check.sentence("Of a PLANK: 0, 1 its PLACES, 2 what it BEARS. BAD.");
        PlankNine x = Check.told("plank 3 1 7;plank 0 2 0;");
        asks("A", x.plank(0, 0), 3, x.plank(1, 0), 0);
        asks("B", x.plank(0, 1), 1, x.plank(1, 1), 2);
        asks("bears", x.plank(0, 2), 7, x.plank(1, 2), 0);
        for (int what : Check.beyond(0, 2)) {
            asks("what " + what, x.plank(0, what), PlankNine.BAD, x.plank(1, what), PlankNine.BAD);
        }
        for (int k : Check.beyond(0, 1)) {
            asks("k " + k, x.plank(k, 0), PlankNine.BAD, x.plank(k, 2), PlankNine.BAD);
        }
    }

    private static void tellingOfPeople() {
        check.sentence("Of one: 0 WEIGHT, 1 STRIDE. BAD.");
        PlankNine x = Check.told("person 3 1;person 1 2;");
        asks("weight", x.person(0, 0), 3, x.person(1, 0), 1);
        asks("stride", x.person(0, 1), 1, x.person(1, 1), 2);
        for (int what : Check.beyond(0, 1)) {
            asks("what " + what, x.person(0, what), PlankNine.BAD, x.person(1, what), PlankNine.BAD);
        }
        for (int p : Check.beyond(0, 1)) {
            asks("p " + p, x.person(p, 0), PlankNine.BAD, x.person(p, 1), PlankNine.BAD);
        }
    }

    private static void tellingOfErrands() {
        check.sentence("Of an ERRAND: 0 who, 1 from, 2 to. BAD.");
        PlankNine x = Check.told("person 1 1;person 1 1;errand 1 3 0;errand 0 1 2;");
        asks("who", x.errand(0, 0), 1, x.errand(1, 0), 0);
        asks("from", x.errand(0, 1), 3, x.errand(1, 1), 1);
        asks("to", x.errand(0, 2), 0, x.errand(1, 2), 2);
        for (int what : Check.beyond(0, 2)) {
            asks("what " + what, x.errand(0, what), PlankNine.BAD, x.errand(1, what), PlankNine.BAD);
        }
        for (int e : Check.beyond(0, 1)) {
            asks("e " + e, x.errand(e, 0), PlankNine.BAD, x.errand(e, 2), PlankNine.BAD);
        }
    }

    private static void asks(String what, int first, int dueFirst, int second, int dueSecond) {
        check.due(what + ", first", first, dueFirst);
        check.due(what + ", second", second, dueSecond);
    }

    private static PlankNine reads(String text, int items) {
        PlankNine x = new PlankNine();
        Check.say(x, text);
        check.due("items of '" + text + "'", x.marsh(), items);
        check.due("THE TEXT is empty behind '" + text + "'", x.count(6), 0);
        return x;
    }

    private static void faults(String text, int place) {
        PlankNine x = new PlankNine();
        Check.say(x, text);
        check.due("fault of '" + text + "'", x.marsh(), -10 - place);
        check.due("THE TEXT stays: '" + text + "'", x.count(6), text.length());
        check.due("no PLANKS by '" + text + "'", x.count(1), 0);
        check.due("four PLACES by '" + text + "'", x.count(0), 4);
    }
}
