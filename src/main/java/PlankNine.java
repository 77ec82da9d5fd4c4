/**
 * Footways over a marsh: planks that bear so many steps and then go under,
 * people by weights and strides, errands, all told by a text.
 *
 * Words in capitals are the terms of the project's document.
 */
public final class PlankNine {
    public static final int BAD = -1, STATE = -2, FULL = -3, NONE = -9;
    public static final int NO = -1000000;

    private static final int NOT_SO_MANY = -5;
    private static final int FAULT_AT_0 = -10;

    private static final int MOST_BYTES = 300;
    private static final int MOST_IN_A_LONG = 8;
    private static final int FEWEST_PLACES = 2;
    private static final int PLACES_AT_FIRST = 4;
    private static final int MOST_PLACES = 6;
    private static final int MOST_PLANKS = 9;
    private static final int MOST_BORNE = 9;
    private static final int MOST_PEOPLE = 4;
    private static final int MOST_WEIGHT = 3;
    private static final int MOST_STRIDE = 2;
    private static final int MOST_ERRANDS = 3;
    private static final int MOST_DAYS = 9;
    private static final int MOST_WENT = 20;
    private static final int IMAGES = 2;
    /** A way that enters no place twice has fewer planks than there are places. */
    private static final int LONGEST_WAY = MOST_PLACES - 1;

    private final Text text = new Text();
    private final Marsh told = new Marsh();
    private final Reader reader = new Reader(text);
    private final Now now = new Now();
    private final Now[] images = {new Now(), new Now()};
    private final boolean[] kept = new boolean[IMAGES];
    private final Ways ways = new Ways(told, now);
    private final Rows rows = new Rows(told, now);
    private final Cuts cuts = new Cuts(told, now);
    private final Tales tales = new Tales(told, now);
    private final Kinds kinds = new Kinds(told, now);

    public PlankNine() {
    }

    // ---- the marsh

    public int type(long v, int n) {
        if (!isWithin(n, 1, MOST_IN_A_LONG)) {
            return BAD;
        }
        if (!text.hasRoomFor(n)) {
            return FULL;
        }
        text.add(v, n);
        return text.length;
    }

    public int clear() {
        int had = text.length;
        text.length = 0;
        return had;
    }

    public int marsh() {
        int items = reader.read();
        if (items < 0) {
            return items;
        }
        text.length = 0;
        told.becomes(reader.draft);
        now.beginsAsTold(told);
        forgetImages();
        return items;
    }

    public int plank(int k, int what) {
        if (!told.isPlank(k)) {
            return BAD;
        }
        switch (what) {
            case 0:
                return told.endA[k];
            case 1:
                return told.endB[k];
            case 2:
                return now.bears[k];
            default:
                return BAD;
        }
    }

    public int person(int p, int what) {
        if (!told.isPerson(p)) {
            return BAD;
        }
        switch (what) {
            case 0:
                return told.weight[p];
            case 1:
                return told.stride[p];
            default:
                return BAD;
        }
    }

    public int errand(int e, int what) {
        if (!told.isErrand(e)) {
            return BAD;
        }
        switch (what) {
            case 0:
                return told.who[e];
            case 1:
                return told.from[e];
            case 2:
                return told.to[e];
            default:
                return BAD;
        }
    }

    // ---- who goes

    public int way(int p, int a, int b, int i) {
        if (!told.isPerson(p) || !told.areTwoPlaces(a, b) || i < -1) {
            return BAD;
        }
        int length = ways.findFirst(p, a, b);
        if (length == 0) {
            return NONE;
        }
        if (i == -1) {
            return length;
        }
        return i < length ? ways.plankOnWay(i) : NOT_SO_MANY;
    }

    public int go(int p, int a, int b) {
        if (!told.isPerson(p) || !told.areTwoPlaces(a, b)) {
            return BAD;
        }
        int length = ways.findFirst(p, a, b);
        return length == 0 ? STATE : ways.walkFound(p, length);
    }

    public int steps(int p, int k) {
        if (!told.isPerson(p) || !told.isPlank(k)) {
            return BAD;
        }
        int weight = told.weight[p];
        if (!now.canTake(k, weight)) {
            return STATE;
        }
        now.take(k, weight, p);
        return now.bears[k];
    }

    public int days(int n) {
        if (!isWithin(n, 1, MOST_DAYS)) {
            return BAD;
        }
        int without = 0;
        for (int day = 0; day < n; day++) {
            without += ways.runErrands();
        }
        return without;
    }

    public int went(int i, int what) {
        if (i < 0 || !isWithin(what, 0, 1)) {
            return BAD;
        }
        if (i >= now.known) {
            return NOT_SO_MANY;
        }
        return what == 0 ? now.wentPlank[i] : now.wentWith[i];
    }

    public int frost() {
        return now.freeze();
    }

    public int cart(int k) {
        if (!told.isPlank(k)) {
            return BAD;
        }
        int bore = now.bears[k];
        now.bears[k] = MOST_BORNE;
        return bore;
    }

    public int exchange(int k, int l) {
        if (!told.isPlank(k) || !told.isPlank(l) || k == l) {
            return BAD;
        }
        now.swap(k, l);
        return 1;
    }

    // ---- what can be

    public int all(int what) {
        if (!isWithin(what, 0, 1)) {
            return BAD;
        }
        int rest = rows.mostLeft();
        if (what == 1) {
            return rest;
        }
        return rest == NONE ? 0 : 1;
    }

    public int often(int w, int a, int b, int what) {
        if (!asksBetween(w, a, b, what)) {
            return BAD;
        }
        cuts.findLeast(w, a, b);
        return what == 0 ? cuts.leastSum : cuts.leastBits;
    }

    public int better(int w, int a, int b, int what) {
        if (!asksBetween(w, a, b, what)) {
            return BAD;
        }
        if (told.planks < 2) {
            return NONE;
        }
        cuts.findBestExchange(w, a, b);
        return what == 0 ? cuts.bestPair : cuts.bestSum;
    }

    public int spent(int image, int k) {
        if (!isImage(image) || k != -1 && !told.isPlank(k)) {
            return BAD;
        }
        if (!kept[image]) {
            return STATE;
        }
        Now then = images[image];
        return k == -1 ? tales.spentByAll(then) : tales.spentBy(then, k);
    }

    public long tell(int image) {
        if (!isImage(image)) {
            return BAD;
        }
        return kept[image] ? tales.waysToTell(images[image]) : STATE;
    }

    // ---- kinds, images

    public int rate(int kind, int p) {
        return told.isPerson(p) ? kinds.rateAs(kind, p) : NO;
    }

    public int keep(int image) {
        if (!isImage(image)) {
            return BAD;
        }
        images[image].becomes(now);
        kept[image] = true;
        return now.notUnder();
    }

    public int back(int image) {
        if (!isImage(image)) {
            return BAD;
        }
        if (!kept[image]) {
            return STATE;
        }
        now.becomes(images[image]);
        return now.notUnder();
    }

    public int count(int what) {
        switch (what) {
            case 0:
                return told.places;
            case 1:
                return told.planks;
            case 2:
                return told.people;
            case 3:
                return told.errands;
            case 4:
                return now.known;
            case 5:
                return now.borneByAll();
            case 6:
                return text.length;
            default:
                return BAD;
        }
    }

    public long trace() {
        return kinds.traced;
    }

    private static boolean isWithin(int number, int least, int most) {
        return number >= least && number <= most;
    }

    private static boolean isIn(int bits, int place) {
        return (bits >> place & 1) == 1;
    }

    private static boolean isImage(int image) {
        return isWithin(image, 0, IMAGES - 1);
    }

    private void forgetImages() {
        for (int image = 0; image < IMAGES; image++) {
            kept[image] = false;
        }
    }

    private boolean asksBetween(int w, int a, int b, int what) {
        return isWithin(w, 1, MOST_WEIGHT) && told.areTwoPlaces(a, b) && isWithin(what, 0, 1);
    }

    /** THE TEXT as it has been typed so far. */
    private static final class Text {
        private static final int NO_BYTE = -1;

        private final byte[] bytes = new byte[MOST_BYTES];
        private int length = 0;

        boolean hasRoomFor(int n) {
            return n <= MOST_BYTES - length;
        }

        void add(long v, int n) {
            for (int i = n - 1; i >= 0 && length < MOST_BYTES; i--) {
                bytes[length] = (byte) (v >> (8 * i));
                length++;
            }
        }

        int byteAt(int i) {
            return i >= 0 && i < length ? bytes[i] & 255 : NO_BYTE;
        }
    }

    /** Reads THE TEXT into a draft, so that a fault leaves what was told before as it is. */
    private static final class Reader {
        private static final int WRONG = 0, END = 1, SEMICOLON = 2, NUMBER = 3;
        private static final int MARSH = 4, PLANK = 5, PERSON = 6, ERRAND = 7;
        private static final int HIGHEST_NUMBER = 99;
        private static final int MOST_NUMBERS = 3;

        private final Text text;
        private final Marsh draft = new Marsh();
        /** The token that was read last: what it is, its first byte's place, the place behind it. */
        private int token = END;
        private int start = 0;
        private int behind = 0;
        private int value = 0;
        /** The numbers of the item that is being read. */
        private final int[] numbers = new int[MOST_NUMBERS];

        Reader(Text text) {
            this.text = text;
        }

        /** How many ITEMS there are, or the answer that tells the FAULT. */
        int read() {
            draft.forgetAll();
            behind = 0;
            int items = 0;
            readToken();
            while (items < MOST_BYTES && token != END) {
                int item = token;
                // Every fault is the place of the token at which reading stops.
                if (!canBegin(item, items) || !readNumbers(item) || !readSemicolon()) {
                    return FAULT_AT_0 - start;
                }
                addItem(item);
                items++;
                readToken();
            }
            return items;
        }

        private boolean canBegin(int item, int itemsBefore) {
            switch (item) {
                case MARSH:
                    return itemsBefore == 0;
                case PLANK:
                    return draft.planks < MOST_PLANKS;
                case PERSON:
                    return draft.people < MOST_PEOPLE;
                case ERRAND:
                    return draft.errands < MOST_ERRANDS;
                default:
                    return false;
            }
        }

        private boolean readNumbers(int item) {
            int lastPlace = draft.places - 1;
            switch (item) {
                case MARSH:
                    return readNumber(0, FEWEST_PLACES, MOST_PLACES);
                case PLANK:
                    return readNumber(0, 0, lastPlace)
                        && readNumber(1, 0, lastPlace) && numbers[1] != numbers[0]
                        && readNumber(2, 0, MOST_BORNE);
                case PERSON:
                    return readNumber(0, 1, MOST_WEIGHT) && readNumber(1, 1, MOST_STRIDE);
                case ERRAND:
                    return readNumber(0, 0, draft.people - 1)
                        && readNumber(1, 0, lastPlace)
                        && readNumber(2, 0, lastPlace) && numbers[2] != numbers[1];
                default:
                    return false;
            }
        }

        private void addItem(int item) {
            if (item == MARSH) {
                draft.places = numbers[0];
            } else if (item == PLANK) {
                draft.addPlank(numbers[0], numbers[1], numbers[2]);
            } else if (item == PERSON) {
                draft.addPerson(numbers[0], numbers[1]);
            } else if (item == ERRAND) {
                draft.addErrand(numbers[0], numbers[1], numbers[2]);
            }
        }

        /** The item's i-th number (from 0), if it is one that may stand there. */
        private boolean readNumber(int i, int least, int most) {
            readToken();
            if (token != NUMBER || !isWithin(value, least, most) || !isWithin(i, 0, MOST_NUMBERS - 1)) {
                return false;
            }
            numbers[i] = value;
            return true;
        }

        private boolean readSemicolon() {
            readToken();
            return token == SEMICOLON;
        }

        private void readToken() {
            start = behind;
            while (start < text.length && text.byteAt(start) == ' ') {
                start++;
            }
            int first = text.byteAt(start);
            behind = start + 1;
            if (first == Text.NO_BYTE) {
                token = END;
            } else if (first == ';') {
                token = SEMICOLON;
            } else if (isDigit(first)) {
                token = digitsToken();
            } else if (isLetter(first)) {
                token = lettersToken();
            } else {
                token = WRONG;
            }
        }

        private int digitsToken() {
            value = text.byteAt(start) - '0';
            while (behind < text.length && isDigit(text.byteAt(behind))) {
                // Held just above the highest one: three hundred digits would wrap.
                value = Math.min(10 * value + text.byteAt(behind) - '0', HIGHEST_NUMBER + 1);
                behind++;
            }
            boolean hasZeroAhead = text.byteAt(start) == '0' && behind - start > 1;
            return hasZeroAhead || value > HIGHEST_NUMBER ? WRONG : NUMBER;
        }

        private int lettersToken() {
            while (behind < text.length && isLetter(text.byteAt(behind))) {
                behind++;
            }
            if (isWord("marsh")) {
                return MARSH;
            }
            if (isWord("plank")) {
                return PLANK;
            }
            if (isWord("person")) {
                return PERSON;
            }
            return isWord("errand") ? ERRAND : WRONG;
        }

        private boolean isWord(String word) {
            if (behind - start != word.length()) {
                return false;
            }
            for (int i = 0; i < word.length(); i++) {
                if (text.byteAt(start + i) != word.charAt(i)) {
                    return false;
                }
            }
            return true;
        }

        private static boolean isDigit(int b) {
            return b >= '0' && b <= '9';
        }

        private static boolean isLetter(int b) {
            return b >= 'a' && b <= 'z';
        }
    }

    /** What the text told; nothing of it changes until a text is read anew. */
    private static final class Marsh {
        private static final int NOWHERE = -1;

        private int places = PLACES_AT_FIRST;
        private int planks = 0;
        private int people = 0;
        private int errands = 0;
        private final int[] endA = new int[MOST_PLANKS];
        private final int[] endB = new int[MOST_PLANKS];
        private final int[] toldToBear = new int[MOST_PLANKS];
        private final int[] weight = new int[MOST_PEOPLE];
        private final int[] stride = new int[MOST_PEOPLE];
        private final int[] who = new int[MOST_ERRANDS];
        private final int[] from = new int[MOST_ERRANDS];
        private final int[] to = new int[MOST_ERRANDS];

        void forgetAll() {
            places = PLACES_AT_FIRST;
            planks = 0;
            people = 0;
            errands = 0;
        }

        void addPlank(int a, int b, int bears) {
            if (planks < MOST_PLANKS) {
                endA[planks] = a;
                endB[planks] = b;
                toldToBear[planks] = bears;
                planks++;
            }
        }

        void addPerson(int w, int s) {
            if (people < MOST_PEOPLE) {
                weight[people] = w;
                stride[people] = s;
                people++;
            }
        }

        void addErrand(int p, int a, int b) {
            if (errands < MOST_ERRANDS) {
                who[errands] = p;
                from[errands] = a;
                to[errands] = b;
                errands++;
            }
        }

        void becomes(Marsh other) {
            places = other.places;
            planks = other.planks;
            people = other.people;
            errands = other.errands;
            System.arraycopy(other.endA, 0, endA, 0, MOST_PLANKS);
            System.arraycopy(other.endB, 0, endB, 0, MOST_PLANKS);
            System.arraycopy(other.toldToBear, 0, toldToBear, 0, MOST_PLANKS);
            System.arraycopy(other.weight, 0, weight, 0, MOST_PEOPLE);
            System.arraycopy(other.stride, 0, stride, 0, MOST_PEOPLE);
            System.arraycopy(other.who, 0, who, 0, MOST_ERRANDS);
            System.arraycopy(other.from, 0, from, 0, MOST_ERRANDS);
            System.arraycopy(other.to, 0, to, 0, MOST_ERRANDS);
        }

        boolean isPlank(int k) {
            return k >= 0 && k < planks;
        }

        boolean isPerson(int p) {
            return p >= 0 && p < people;
        }

        boolean isErrand(int e) {
            return e >= 0 && e < errands;
        }

        boolean areTwoPlaces(int a, int b) {
            return a >= 0 && a < places && b >= 0 && b < places && a != b;
        }

        /** Where a plank leads from a place, if that is none of the places seen (bits). */
        int across(int k, int here, int seen) {
            int there = endA[k] == here ? endB[k] : endA[k];
            boolean isHere = endA[k] == here || endB[k] == here;
            return isHere && !isIn(seen, there) ? there : NOWHERE;
        }

        /** What one's step takes that has so many steps of its way before it. */
        int takes(int p, int stepsBefore) {
            boolean isLeaptOver = stride[p] == 2 && stepsBefore % 2 == 1;
            return isLeaptOver ? 0 : weight[p];
        }
    }

    /** NOW, or an IMAGE of it. Planks that were not told bear 0, so sums may run over all nine. */
    private static final class Now {
        private final int[] bears = new int[MOST_PLANKS];
        private final int[] wentPlank = new int[MOST_WENT];
        private final int[] wentWith = new int[MOST_WENT];
        private int known = 0;

        void beginsAsTold(Marsh marsh) {
            for (int k = 0; k < MOST_PLANKS; k++) {
                bears[k] = k < marsh.planks ? marsh.toldToBear[k] : 0;
            }
            known = 0;
        }

        void becomes(Now other) {
            System.arraycopy(other.bears, 0, bears, 0, MOST_PLANKS);
            System.arraycopy(other.wentPlank, 0, wentPlank, 0, MOST_WENT);
            System.arraycopy(other.wentWith, 0, wentWith, 0, MOST_WENT);
            known = other.known;
        }

        /** A plank that is under can't be stepped on, even by a step that takes nothing. */
        boolean canTake(int k, int takes) {
            return bears[k] > 0 && bears[k] >= takes;
        }

        /** Whether the plank WENT under by it. */
        boolean take(int k, int takes, int p) {
            bears[k] -= takes;
            if (bears[k] > 0) {
                return false;
            }
            if (known < MOST_WENT) {
                wentPlank[known] = k;
                wentWith[known] = p;
                known++;
            }
            return true;
        }

        int freeze() {
            int more = 0;
            for (int k = 0; k < MOST_PLANKS; k++) {
                if (bears[k] > 0 && bears[k] < MOST_BORNE) {
                    bears[k]++;
                    more++;
                }
            }
            return more;
        }

        void swap(int k, int l) {
            int bore = bears[k];
            bears[k] = bears[l];
            bears[l] = bore;
        }

        int borneByAll() {
            int sum = 0;
            for (int k = 0; k < MOST_PLANKS; k++) {
                sum += bears[k];
            }
            return sum;
        }

        int notUnder() {
            return howManyBear(1);
        }

        int howManyBear(int w) {
            int planks = 0;
            for (int k = 0; k < MOST_PLANKS; k++) {
                if (bears[k] >= w) {
                    planks++;
                }
            }
            return planks;
        }
    }

    /** The FIRST WAY, and going by it. */
    private static final class Ways {
        private final Marsh marsh;
        private final Now now;
        private final int[] found = new int[LONGEST_WAY];

        Ways(Marsh marsh, Now now) {
            this.marsh = marsh;
            this.now = now;
        }

        /** How many planks the FIRST WAY has; 0 if there is none. */
        int findFirst(int p, int a, int b) {
            for (int length = 1; length < marsh.places; length++) {
                if (findFrom(p, a, b, length, 0, 1 << a)) {
                    return length;
                }
            }
            return 0;
        }

        /** Planks are tried by their numbers, so what is found first is the first of its length. */
        private boolean findFrom(int p, int here, int goal, int length, int depth, int seen) {
            if (here == goal) {
                return depth == length;
            }
            if (depth >= length || depth >= LONGEST_WAY) {
                return false;
            }
            int takes = marsh.takes(p, depth);
            for (int k = 0; k < marsh.planks; k++) {
                int next = marsh.across(k, here, seen);
                if (next == Marsh.NOWHERE || !now.canTake(k, takes)) {
                    continue;
                }
                found[depth] = k;
                if (findFrom(p, next, goal, length, depth + 1, seen | 1 << next)) {
                    return true;
                }
            }
            return false;
        }

        int plankOnWay(int i) {
            return i >= 0 && i < LONGEST_WAY ? found[i] : NOT_SO_MANY;
        }

        /** How many planks WENT under by it, those too that are beyond what is known. */
        int walkFound(int p, int length) {
            int under = 0;
            for (int i = 0; i < length && i < LONGEST_WAY; i++) {
                if (now.take(found[i], marsh.takes(p, i), p)) {
                    under++;
                }
            }
            return under;
        }

        /** One day: how many errands had no way. */
        int runErrands() {
            int without = 0;
            for (int e = 0; e < marsh.errands; e++) {
                int p = marsh.who[e];
                int length = findFirst(p, marsh.from[e], marsh.to[e]);
                if (length == 0) {
                    without++;
                } else {
                    walkFound(p, length);
                }
            }
            return without;
        }
    }

    /** Rows of ways, one for each errand, in the errands' order. */
    private static final class Rows {
        private final Marsh marsh;
        private final Now now;
        private int most = NONE;

        Rows(Marsh marsh, Now now) {
            this.marsh = marsh;
            this.now = now;
        }

        /** REST, or NONE. */
        int mostLeft() {
            most = NONE;
            beginErrand(0, now.borneByAll());
            return most;
        }

        private void beginErrand(int e, int left) {
            if (e >= marsh.errands) {
                most = Math.max(most, left);
                return;
            }
            goOn(e, marsh.from[e], 0, 1 << marsh.from[e], left);
        }

        /** Each step is taken from what planks bear now, and given back behind it. */
        private void goOn(int e, int here, int depth, int seen, int left) {
            // What is left never grows on the way: such a row can't be better any more.
            if (left <= most) {
                return;
            }
            if (here == marsh.to[e]) {
                beginErrand(e + 1, left);
                return;
            }
            if (depth >= LONGEST_WAY) {
                return;
            }
            int takes = marsh.takes(marsh.who[e], depth);
            for (int k = 0; k < marsh.planks; k++) {
                int next = marsh.across(k, here, seen);
                if (next == Marsh.NOWHERE || !now.canTake(k, takes)) {
                    continue;
                }
                now.bears[k] -= takes;
                goOn(e, next, depth + 1, seen | 1 << next, left - takes);
                now.bears[k] += takes;
            }
        }
    }

    /**
     * OFTEN, CUT and BEST EXCHANGE. How often one can go is as much as the least cut lets by, and
     * the least cut is among those that part the places into two sides: every other set that keeps
     * two places apart holds one of these, and so has no lesser sum and no lesser bits.
     */
    private static final class Cuts {
        private static final int ABOVE_ANY_SUM = MOST_PLANKS * MOST_BORNE + 1;

        private final Marsh marsh;
        private final Now now;
        private int leastSum = 0;
        private int leastBits = 0;
        private int bestSum = 0;
        private int bestPair = 0;

        Cuts(Marsh marsh, Now now) {
            this.marsh = marsh;
            this.now = now;
        }

        void findLeast(int w, int a, int b) {
            leastSum = ABOVE_ANY_SUM;
            leastBits = 0;
            for (int side = 0; side < 1 << marsh.places; side++) {
                if (isIn(side, a) && !isIn(side, b)) {
                    lookAtSide(side, w);
                }
            }
        }

        private void lookAtSide(int side, int w) {
            int sum = 0;
            int bits = 0;
            for (int k = 0; k < marsh.planks; k++) {
                if (isIn(side, marsh.endA[k]) != isIn(side, marsh.endB[k])) {
                    sum += timesBorne(k, w);
                    bits |= 1 << k;
                }
            }
            if (sum < leastSum || sum == leastSum && bits < leastBits) {
                leastSum = sum;
                leastBits = bits;
            }
        }

        private int timesBorne(int k, int w) {
            return w > 0 ? now.bears[k] / w : 0;
        }

        void findBestExchange(int w, int a, int b) {
            bestSum = -1;
            bestPair = NONE;
            for (int i = 0; i < marsh.planks; i++) {
                for (int j = i + 1; j < marsh.planks; j++) {
                    now.swap(i, j);
                    findLeast(w, a, b);
                    now.swap(i, j);
                    if (leastSum > bestSum) {
                        bestSum = leastSum;
                        bestPair = 10 * i + j;
                    }
                }
            }
        }
    }

    /** SPENT since an image, and the WAYS TO TELL it. */
    private static final class Tales {
        private final Marsh marsh;
        private final Now now;
        private final int[] waysFor = new int[MOST_BORNE + 1];

        Tales(Marsh marsh, Now now) {
            this.marsh = marsh;
            this.now = now;
        }

        int spentBy(Now then, int k) {
            return Math.max(0, then.bears[k] - now.bears[k]);
        }

        int spentByAll(Now then) {
            int sum = 0;
            for (int k = 0; k < marsh.planks; k++) {
                sum += spentBy(then, k);
            }
            return sum;
        }

        long waysToTell(Now then) {
            countWays();
            long ways = 1;
            for (int k = 0; k < marsh.planks; k++) {
                int spentHere = spentBy(then, k);
                ways *= spentHere <= MOST_BORNE ? waysFor[spentHere] : 0;
            }
            return ways;
        }

        /** For each sum, in how many ways crossings come to it; one more person at a time. */
        private void countWays() {
            waysFor[0] = 1;
            for (int sum = 1; sum <= MOST_BORNE; sum++) {
                waysFor[sum] = 0;
            }
            for (int p = 0; p < marsh.people; p++) {
                int w = marsh.weight[p];
                for (int sum = w; sum <= MOST_BORNE; sum++) {
                    waysFor[sum] += waysFor[sum - w];
                }
            }
        }
    }

    /** RATE: one body for each KIND; each asks the one of the KIND above it once. */
    private static final class Kinds {
        private final Marsh marsh;
        private final Now now;
        private long traced = 0;

        Kinds(Marsh marsh, Now now) {
            this.marsh = marsh;
            this.now = now;
        }

        int rateAs(int kind, int p) {
            switch (kind) {
                case 0:
                    return asPerson(p);
                case 1:
                    return asFarmer(p);
                case 2:
                    return asLeaper(p);
                case 3:
                    return asCarter(p);
                case 4:
                    return asThief(p);
                case 5:
                    return asBride(p);
                default:
                    return NO;
            }
        }

        private int asPerson(int p) {
            traced += 1;
            return marsh.weight[p];
        }

        private int asFarmer(int p) {
            traced += 10;
            return asPerson(p) + now.howManyBear(marsh.weight[p]);
        }

        private int asLeaper(int p) {
            traced += 100;
            return asPerson(p) - marsh.stride[p];
        }

        private int asCarter(int p) {
            traced += 1000;
            return 2 * asFarmer(p);
        }

        private int asThief(int p) {
            traced += 10000;
            return asLeaper(p) + p;
        }

        private int asBride(int p) {
            traced += 100000;
            return asPerson(p) + now.known;
        }
    }
}
