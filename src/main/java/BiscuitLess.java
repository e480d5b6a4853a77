import java.util.NoSuchElementException;

/** A land in which nothing has become dearer: see README.md and the document's promises 1 to 31. */
public final class BiscuitLess {
    public static final int NONE = -1;

    private static final int NOTHING_BOUGHT = -2;
    private static final int NO_SUCH_ANSWER = -2;
    private static final int NO_DIFFERENCE = -1000000000;

    private static final int TAPE_ROOM = 900;
    private static final int MONTH_ROOM = 12;
    private static final int GROUP_ROOM = 4;
    private static final int THING_ROOM = 8;
    private static final int TEXT_CHANGE_ROOM = 16;
    private static final int CHANGE_ROOM = 20;
    private static final int HOUSE_ROOM = 3;
    private static final int OFFICE_ROOM = 3;
    private static final int NAME_ROOM = GROUP_ROOM + THING_ROOM + HOUSE_ROOM + OFFICE_ROOM;

    private static final int LEAST_SIZE = 10;
    private static final int MOST_SIZE = 999;
    private static final int LEAST_STUFF = 10;
    private static final int MOST_STUFF = 200;
    private static final int LEAST_PRICE = 1;
    private static final int MOST_PRICE = 999;
    private static final int MOST_CHANGE = 999;
    private static final int MOST_HIDDEN = 99;
    private static final int MOST_OFF = 999;
    private static final int MOST_FACTOR = 20;

    private static final int START_NUMBER = 10000;
    private static final int MOST_NUMBER = 1000000;

    private static final int DEARER = 0;
    private static final int CHEAPER = 1;
    private static final int SMALLER = 2;
    private static final int THINNER = 3;
    private static final int BETTER = 4;
    private static final int GONE = 5;
    private static final int COME = 6;

    // Of the words for what is missing, for what is seen and for the basket, by their order in the document.
    private static final int NEAR = 1;
    private static final int DROP = 2;
    private static final int BY_WEIGHT = 1;
    private static final int CHAINED = 1;

    private static final int NOT_REFUSED = 0;
    private static final int NONE_SUCH = 1;
    private static final int BAD_NUMBER = 2;
    private static final int NO_ROOM = 3;
    private static final int FAULTY = 4;
    private static final int NOT_SO = 5;
    private static final int THERE_IS_NONE = 6;

    private final int[] tape = new int[TAPE_ROOM];
    private Land told = new Land();
    // A text is read into this one, so that a fault leaves the land as it was.
    private Land spare = new Land();
    private final Reader reader = new Reader(tape, spare);
    private final Course course = new Course(told);
    private final Tally tally = new Tally(course, told);
    // A second pair, so that a maker's trial leaves what stands untouched.
    private final Course trialCourse = new Course(told);
    private final Tally trialTally = new Tally(trialCourse, told);
    private int tapeLength;
    private int refusal;
    private int faultNumber;
    private int faultPlace;

    public BiscuitLess() {
    }

    // ---- the land

    public int feed(int a, int b, int c, int d, int e) {
        if (tapeLength + 20 > TAPE_ROOM) {
            return NONE;
        }
        putFourBytes(a);
        putFourBytes(b);
        putFourBytes(c);
        putFourBytes(d);
        putFourBytes(e);
        return tapeLength;
    }

    public int land(int n) {
        if (n < 0 || n > tapeLength) {
            return refuse(BAD_NUMBER);
        }
        tapeLength = 0;
        if (!reader.reads(spare, n)) {
            faultNumber = reader.faultNumber();
            faultPlace = reader.faultPlace();
            return refuse(FAULTY);
        }
        faultNumber = 0;
        Land former = told;
        told = spare;
        spare = former;
        tally.follow(told);
        refusal = NOT_REFUSED;
        return told.things;
    }

    public int fault() {
        return faultNumber;
    }

    public int where() {
        return refusal == FAULTY ? faultPlace : NONE;
    }

    // ---- things, houses

    public int thing(int t, int month, int what) {
        if (!told.isThing(t) || !told.isMonth(month)) {
            return NONE;
        }
        switch (what) {
            case 0:
                return course.sizes[t][month];
            case 1:
                return course.stuffs[t][month];
            case 2:
                return course.prices[t][month];
            case 3:
                return course.isThere(t, month) ? 1 : 0;
            case 4:
                return told.goods[t].group;
            default:
                return NONE;
        }
    }

    public int buys(int house, int group, int month, int what) {
        boolean wanted = told.isHouse(house) && told.isGroup(group) && told.people[house].wants[group] > 0;
        if (!found(wanted && told.isMonth(month) && (what == 0 || what == 1))) {
            return NONE;
        }
        int row = rowOf(house, group);
        return what == 0 ? course.bought[row][month] : course.pieces[row][month];
    }

    public int spent(int house, int month) {
        return found(isHouseMonth(house, month)) ? course.spending(house, month) : NONE;
    }

    public int missed(int house, int month) {
        return found(isHouseMonth(house, month)) ? course.shortfall(house, month) : NONE;
    }

    public int truly(int house, int month) {
        return found(isHouseMonth(house, month)) ? course.trueCost(house, month) : NONE;
    }

    public int live(int house, int month) {
        return found(isHouseMonth(house, month)) ? course.livingNumber(house, month) : NONE;
    }

    // ---- numbers

    public int number(int office, int month) {
        return found(isOfficeMonth(office, month)) ? tally.numbers[office][month] : NONE;
    }

    public long gives(int office, int thing, int month) {
        if (!found(isOfficeMonth(office, month) && told.isThing(thing))) {
            return NONE;
        }
        return tally.partThen(office, thing, tally.listMonth(office, month), month);
    }

    public int beside(int office, int house, int month) {
        if (!found(isOfficeMonth(office, month) && told.isHouse(house))) {
            return NO_DIFFERENCE;
        }
        return tally.numbers[office][month] - course.livingNumber(house, month);
    }

    public int back(int month) {
        if (!found(told.isMonth(month))) {
            return NONE;
        }
        return course.isBack(month) ? 1 : 0;
    }

    public int drift(int office, int month) {
        if (!found(isOfficeMonth(office, month))) {
            return NO_DIFFERENCE;
        }
        if (!course.isBack(month)) {
            refusal = NOT_SO;
            return NO_DIFFERENCE;
        }
        return tally.numbers[office][month] - START_NUMBER;
    }

    public int has(int office, int what) {
        if (!found(told.isOffice(office) && what >= 0 && what <= 2)) {
            return NONE;
        }
        boolean kept;
        if (what == 0) {
            kept = tally.staysSame(office);
        } else if (what == 1) {
            kept = tally.seesAll(office);
        } else {
            kept = tally.isNeverBelow(office);
        }
        return kept ? 1 : 0;
    }

    public int instead(int house, int month, int side) {
        if (!found(isHouseMonth(house, month) && (side == 0 || side == 1))) {
            return NONE;
        }
        return side == 0 ? course.firstBasketNumber(house, month) : course.latestBasketNumber(house, month);
    }

    public int pension(int house, int office, int month) {
        if (!found(isOfficeMonth(office, month) && told.isHouse(house))) {
            return NONE;
        }
        return tally.pensionPaid(house, office, month);
    }

    public int lacks(int house, int office, int month) {
        if (!found(isOfficeMonth(office, month) && told.isHouse(house))) {
            return NONE;
        }
        return tally.shortUpTo(house, office, month);
    }

    public int nearest(int house, int month) {
        return found(isHouseMonth(house, month)) ? tally.closestOffice(house, month) : NONE;
    }

    // ---- worths, makers, men

    public int worths(int group, int month, int t) {
        int why = whyNoWorths(told.isGroup(group) && told.isMonth(month), t);
        if (why != NOT_REFUSED) {
            return refuse(why);
        }
        refusal = NOT_REFUSED;
        return course.countWorths(group, month, t);
    }

    public int span(int group, int month, int t, int what, boolean most) {
        boolean isThere = told.isGroup(group) && told.isMonth(month) && (what == 0 || what == 1);
        int why = whyNoWorths(isThere, t);
        if (why != NOT_REFUSED) {
            return refuse(why);
        }
        int end = course.endOfWorths(group, month, t, what, most);
        if (end == NONE) {
            return refuse(THERE_IS_NONE);
        }
        refusal = NOT_REFUSED;
        return end;
    }

    public int hides(int thing, int month, int by, int office) {
        int why = whyNoTrial(thing, month, by, told.isOffice(office));
        if (why != NOT_REFUSED) {
            return refuse(why);
        }
        refusal = NOT_REFUSED;
        int best = NO_SUCH_ANSWER;
        int mostGain = -1;
        for (int way = 0; way < 3; way++) {
            tryOut(thing, month, by, way);
            int gained = trialGain(thing, month, by, way);
            if (gained > mostGain && isHidden(thing, month, office)) {
                best = way;
                mostGain = gained;
            }
        }
        return best;
    }

    public int gain(int thing, int month, int by, int how) {
        int why = whyNoTrial(thing, month, by, how >= 0 && how <= 2);
        if (why != NOT_REFUSED) {
            return refuse(why);
        }
        refusal = NOT_REFUSED;
        tryOut(thing, month, by, how);
        return trialGain(thing, month, by, how);
    }

    public int look(int k, int month, int office) {
        if (!found(isOfficeMonth(office, month))) {
            return NONE;
        }
        if (k < 1 || k > told.things) {
            return refuse(BAD_NUMBER);
        }
        return tally.closestSet(k, month, office);
    }

    // ---- going on

    public int change(int thing, int month, int how, int by) {
        if (!found(told.isThing(thing) && told.isLaterMonth(month) && how >= DEARER && how <= COME)) {
            return NONE;
        }
        if (how <= BETTER && (by < 1 || by > MOST_CHANGE)) {
            return refuse(BAD_NUMBER);
        }
        if (told.changes >= CHANGE_ROOM) {
            return refuse(NO_ROOM);
        }
        told.addChange(thing, month, how, by);
        tally.follow(told);
        return told.changes;
    }

    public boolean undo() {
        if (told.changes <= told.textChanges) {
            refusal = THERE_IS_NONE;
            return false;
        }
        told.dropChange();
        tally.follow(told);
        refusal = NOT_REFUSED;
        return true;
    }

    public int led(int house, int i) throws NoSuchElementException {
        int month = told.isHouse(house) && i >= 0 ? course.monthLed(house, i) : NONE;
        if (month == NONE) {
            throw new NoSuchElementException("no such month");
        }
        return month;
    }

    public int size(int what) {
        switch (what) {
            case 0:
                return told.months;
            case 1:
                return told.groups;
            case 2:
                return told.things;
            case 3:
                return told.changes;
            case 4:
                return told.houses;
            case 5:
                return told.offices;
            case 6:
                return tapeLength;
            default:
                return NONE;
        }
    }

    public int trouble() {
        return refusal;
    }

    // ---- refusals

    private int refuse(int why) {
        refusal = why;
        return NONE;
    }

    private boolean found(boolean isThere) {
        refusal = isThere ? NOT_REFUSED : NONE_SUCH;
        return isThere;
    }

    private boolean isHouseMonth(int house, int month) {
        return told.isHouse(house) && told.isMonth(month);
    }

    private boolean isOfficeMonth(int office, int month) {
        return told.isOffice(office) && told.isMonth(month);
    }

    private static int whyNoWorths(boolean isThere, int off) {
        if (!isThere) {
            return NONE_SUCH;
        }
        return off < 0 || off > MOST_OFF ? BAD_NUMBER : NOT_REFUSED;
    }

    private int whyNoTrial(int thing, int month, int by, boolean restIsThere) {
        boolean isThere = told.isThing(thing) && told.isLaterMonth(month) && course.isThere(thing, month);
        if (!isThere || !restIsThere) {
            return NONE_SUCH;
        }
        if (by < 1 || by > MOST_HIDDEN) {
            return BAD_NUMBER;
        }
        return told.changes >= CHANGE_ROOM ? NO_ROOM : NOT_REFUSED;
    }

    // ---- helpers

    private void putFourBytes(int four) {
        for (int shift = 24; shift >= 0; shift -= 8) {
            tape[tapeLength] = (four >>> shift) & 255;
            tapeLength++;
        }
    }

    private void tryOut(int thing, int month, int by, int way) {
        told.addChange(thing, month, changeOfWay(way), by);
        trialTally.follow(told);
        told.dropChange();
    }

    private static int changeOfWay(int way) {
        if (way == 0) {
            return DEARER;
        }
        return way == 1 ? SMALLER : THINNER;
    }

    private int trialGain(int thing, int month, int by, int way) {
        long all = (long) by * trialCourse.piecesOfAll[thing][month];
        if (way == 0) {
            return (int) all;
        }
        int whole = way == 1 ? course.sizes[thing][month] : course.stuffs[thing][month];
        return (int) downwards(all * trialCourse.prices[thing][month], whole, 0);
    }

    private boolean isHidden(int thing, int month, int office) {
        for (int house = 0; house < told.houses; house++) {
            if (trialCourse.piecesOf(house, thing, month) < course.piecesOf(house, thing, month)) {
                return false;
            }
        }
        return trialTally.numbers[office][month] <= tally.numbers[office][month];
    }

    private static int rowOf(int house, int group) {
        return house * GROUP_ROOM + group;
    }

    private static long downwards(long amount, long by, long withoutOne) {
        return by > 0 ? amount / by : withoutOne;
    }

    /** A number of 10,000ths, kept within what the document allows. */
    private static int ratio(long amount, long by) {
        return (int) Math.min(MOST_NUMBER, downwards(amount * START_NUMBER, by, START_NUMBER));
    }

    private static final class Thing {
        int group;
        int size;
        int stuff;
        int price;
    }

    private static final class Change {
        int thing;
        int month;
        int how;
        int by;
    }

    private static final class House {
        final int[] wants = new int[GROUP_ROOM];
        int notices;
        int pension;
    }

    private static final class Office {
        int missing;
        int sees;
        int basket;
    }

    /** What a text tells, and the changes that came behind it. */
    private static final class Land {
        final Thing[] goods = new Thing[THING_ROOM];
        final Change[] news = new Change[CHANGE_ROOM];
        final House[] people = new House[HOUSE_ROOM];
        final Office[] desks = new Office[OFFICE_ROOM];
        int months;
        int groups;
        int things;
        int changes;
        int textChanges;
        int houses;
        int offices;

        Land() {
            for (int i = 0; i < THING_ROOM; i++) {
                goods[i] = new Thing();
            }
            for (int i = 0; i < CHANGE_ROOM; i++) {
                news[i] = new Change();
            }
            for (int i = 0; i < HOUSE_ROOM; i++) {
                people[i] = new House();
            }
            for (int i = 0; i < OFFICE_ROOM; i++) {
                desks[i] = new Office();
            }
        }

        void empty() {
            months = 0;
            groups = 0;
            things = 0;
            changes = 0;
            textChanges = 0;
            houses = 0;
            offices = 0;
        }

        boolean isMonth(int month) {
            return month >= 0 && month < months;
        }

        boolean isLaterMonth(int month) {
            return month >= 1 && month < months;
        }

        boolean isGroup(int group) {
            return group >= 0 && group < groups;
        }

        boolean isThing(int thing) {
            return thing >= 0 && thing < things;
        }

        boolean isHouse(int house) {
            return house >= 0 && house < houses;
        }

        boolean isOffice(int office) {
            return office >= 0 && office < offices;
        }

        void addChange(int thing, int month, int how, int by) {
            if (changes >= CHANGE_ROOM) {
                return;
            }
            Change added = news[changes];
            added.thing = thing;
            added.month = month;
            added.how = how;
            added.by = by;
            changes++;
        }

        void dropChange() {
            if (changes > 0) {
                changes--;
            }
        }

        boolean hasCome(int thing) {
            for (int i = 0; i < changes; i++) {
                if (news[i].thing == thing && news[i].how == COME) {
                    return true;
                }
            }
            return false;
        }
    }

    /** The names told so far, each as its letters in one number, so that no text need be made. */
    private static final class Names {
        private final long[] letters = new long[NAME_ROOM];
        private final int[] sorts = new int[NAME_ROOM];
        private final int[] numbers = new int[NAME_ROOM];
        private int count;

        void empty() {
            count = 0;
        }

        void add(long name, int sort, int number) {
            if (count >= NAME_ROOM) {
                return;
            }
            letters[count] = name;
            sorts[count] = sort;
            numbers[count] = number;
            count++;
        }

        boolean knows(long name) {
            for (int i = 0; i < count; i++) {
                if (letters[i] == name) {
                    return true;
                }
            }
            return false;
        }

        int numberOf(long name, int sort) {
            for (int i = 0; i < count; i++) {
                if (letters[i] == name && sorts[i] == sort) {
                    return numbers[i];
                }
            }
            return NONE;
        }
    }

    /** Parts the tape into tokens, one at a time. */
    private static final class Tokens {
        static final int END = 0;
        static final int WORD = 1;
        static final int WHOLE = 2;
        static final int SEMICOLON = 3;
        static final int COMMA = 4;
        static final int NO_TOKEN = 5;
        private static final int MOST_LETTERS = 8;
        private static final int MOST_DIGITS = 3;

        private final int[] bytes;
        private int end;
        private int stop;
        int kind;
        int start;
        /** The bytes of a word as one number, as the constants of the reader have them; 0 of all else. */
        long letters;
        /** What a whole tells; 0 of all else. */
        int whole;

        Tokens(int[] bytes) {
            this.bytes = bytes;
        }

        void open(int length) {
            end = Math.min(length, bytes.length);
            stop = 0;
            advance();
        }

        void advance() {
            start = stop;
            letters = 0;
            whole = 0;
            while (start < end && bytes[start] == ' ') {
                start++;
            }
            stop = start;
            if (start >= end) {
                kind = END;
            } else if (bytes[start] >= 'a' && bytes[start] <= 'z') {
                advanceOverLetters();
            } else if (bytes[start] >= '0' && bytes[start] <= '9') {
                advanceOverDigits();
            } else {
                advanceOverSign();
            }
        }

        private void advanceOverLetters() {
            long packed = 0;
            while (stop < end && bytes[stop] >= 'a' && bytes[stop] <= 'z') {
                packed = packed << 8 | bytes[stop];
                stop++;
            }
            boolean isWord = stop - start <= MOST_LETTERS;
            kind = isWord ? WORD : NO_TOKEN;
            letters = isWord ? packed : 0;
        }

        private void advanceOverDigits() {
            int value = 0;
            while (stop < end && bytes[stop] >= '0' && bytes[stop] <= '9') {
                value = value * 10 + (bytes[stop] - '0');
                stop++;
            }
            boolean isWhole = stop - start <= MOST_DIGITS;
            kind = isWhole ? WHOLE : NO_TOKEN;
            whole = isWhole ? value : 0;
        }

        private void advanceOverSign() {
            if (bytes[start] == ';') {
                kind = SEMICOLON;
            } else {
                kind = bytes[start] == ',' ? COMMA : NO_TOKEN;
            }
            stop = start + 1;
        }
    }

    /** Reads a text into a land; its methods answer false at the first fault, which is then kept. */
    private static final class Reader {
        private static final int FORM = 1;
        private static final int NOT_TOLD = 2;
        private static final int AGAIN = 3;
        private static final int BOUNDS = 4;
        private static final int MANY = 5;
        private static final int LACKS = 6;

        private static final int GROUP = 0;
        private static final int THING = 1;
        private static final int HOUSE = 2;
        private static final int OFFICE = 3;

        // Words are compared as numbers made of their bytes, so that reading makes no texts.
        private static final long MONTHS_WORD = 0x6d6f6e746873L;
        private static final long GROUP_WORD = 0x67726f7570L;
        private static final long THING_WORD = 0x7468696e67L;
        private static final long CHANGE_WORD = 0x6368616e6765L;
        private static final long HOUSE_WORD = 0x686f757365L;
        private static final long OFFICE_WORD = 0x6f6666696365L;
        private static final long GONE_WORD = 0x676f6e65L;
        private static final long COME_WORD = 0x636f6d65L;
        private static final long OF_WORD = 0x6f66L;
        private static final long SIZE_WORD = 0x73697a65L;
        private static final long STUFF_WORD = 0x7374756666L;
        private static final long PRICE_WORD = 0x7072696365L;
        private static final long MONTH_WORD = 0x6d6f6e7468L;
        private static final long NOTICES_WORD = 0x6e6f7469636573L;
        private static final long PENSION_WORD = 0x70656e73696f6eL;
        private static final long WANTS_WORD = 0x77616e7473L;
        private static final long[] NO_NAMES = {MONTHS_WORD, GROUP_WORD, THING_WORD, CHANGE_WORD,
            HOUSE_WORD, OFFICE_WORD, GONE_WORD, COME_WORD};
        // dearer, cheaper, smaller, thinner, better, gone, come
        private static final long[] HOW_WORDS = {0x646561726572L, 0x63686561706572L, 0x736d616c6c6572L,
            0x7468696e6e6572L, 0x626574746572L, GONE_WORD, COME_WORD};
        // carry, near, drop
        private static final long[] MISSING_WORDS = {0x6361727279L, 0x6e656172L, 0x64726f70L};
        // piece, weight
        private static final long[] SEES_WORDS = {0x7069656365L, 0x776569676874L};
        // fixed, chained
        private static final long[] BASKET_WORDS = {0x6669786564L, 0x636861696e6564L};

        private final Tokens tokens;
        private final Names names = new Names();
        private Land into;
        private int named;
        private int amount;
        private int failure;
        private int failurePlace;

        Reader(int[] bytes, Land into) {
            tokens = new Tokens(bytes);
            this.into = into;
        }

        int faultNumber() {
            return failure;
        }

        int faultPlace() {
            return failurePlace;
        }

        boolean reads(Land empty, int length) {
            into = empty;
            into.empty();
            names.empty();
            failure = 0;
            tokens.open(length);
            for (int lines = 0; lines <= TAPE_ROOM; lines++) {
                if (!readsLine()) {
                    return false;
                }
                if (tokens.kind == Tokens.END) {
                    into.textChanges = into.changes;
                    return isWhole() || fails(LACKS);
                }
                if (tokens.kind != Tokens.SEMICOLON) {
                    return fails(FORM);
                }
                tokens.advance();
            }
            return fails(FORM);
        }

        private boolean isWhole() {
            return into.months > 0 && into.things > 0 && into.houses > 0 && into.offices > 0;
        }

        private boolean fails(int why) {
            failure = why;
            failurePlace = tokens.start;
            return false;
        }

        private boolean readsLine() {
            if (tokens.letters == MONTHS_WORD) {
                return readsMonths();
            }
            if (tokens.letters == GROUP_WORD) {
                return readsGroup();
            }
            if (tokens.letters == THING_WORD) {
                return readsThing();
            }
            if (tokens.letters == CHANGE_WORD) {
                return readsChange();
            }
            if (tokens.letters == HOUSE_WORD) {
                return readsHouse();
            }
            if (tokens.letters == OFFICE_WORD) {
                return readsOffice();
            }
            return fails(FORM);
        }

        private boolean readsMonths() {
            if (into.months > 0) {
                return fails(AGAIN);
            }
            tokens.advance();
            if (!takesWhole(2, MONTH_ROOM)) {
                return false;
            }
            into.months = amount;
            return true;
        }

        private boolean readsGroup() {
            if (into.groups >= GROUP_ROOM) {
                return fails(MANY);
            }
            tokens.advance();
            if (!tellsName(GROUP, into.groups)) {
                return false;
            }
            into.groups++;
            return true;
        }

        private boolean readsThing() {
            if (into.things >= THING_ROOM) {
                return fails(MANY);
            }
            Thing thing = into.goods[into.things];
            tokens.advance();
            if (!tellsName(THING, into.things) || !takesWord(OF_WORD) || !usesName(GROUP)) {
                return false;
            }
            thing.group = named;
            if (!takesWord(SIZE_WORD) || !takesWhole(LEAST_SIZE, MOST_SIZE)) {
                return false;
            }
            thing.size = amount;
            if (!takesWord(STUFF_WORD) || !takesWhole(LEAST_STUFF, MOST_STUFF)) {
                return false;
            }
            thing.stuff = amount;
            if (!takesWord(PRICE_WORD) || !takesWhole(LEAST_PRICE, MOST_PRICE)) {
                return false;
            }
            thing.price = amount;
            into.things++;
            return true;
        }

        private boolean readsChange() {
            if (into.changes >= TEXT_CHANGE_ROOM) {
                return fails(MANY);
            }
            tokens.advance();
            if (!usesName(THING)) {
                return false;
            }
            int thing = named;
            // The months may be told behind the change, so its own bounds alone count here.
            if (!takesWord(MONTH_WORD) || !takesWhole(1, MONTH_ROOM - 1)) {
                return false;
            }
            int month = amount;
            if (!takesOneOf(HOW_WORDS)) {
                return false;
            }
            int how = amount;
            amount = 0;
            if (how <= BETTER && !takesWhole(1, MOST_CHANGE)) {
                return false;
            }
            into.addChange(thing, month, how, amount);
            return true;
        }

        private boolean readsHouse() {
            if (into.houses >= HOUSE_ROOM) {
                return fails(MANY);
            }
            House house = into.people[into.houses];
            tokens.advance();
            if (!tellsName(HOUSE, into.houses) || !takesWord(NOTICES_WORD) || !takesWhole(0, 99)) {
                return false;
            }
            house.notices = amount;
            if (!takesWord(PENSION_WORD) || !takesWhole(0, 999)) {
                return false;
            }
            house.pension = amount;
            if (!takesWord(WANTS_WORD) || !readsWants(house)) {
                return false;
            }
            into.houses++;
            return true;
        }

        private boolean readsWants(House house) {
            for (int group = 0; group < GROUP_ROOM; group++) {
                house.wants[group] = 0;
            }
            // One round more than there are groups meets at the latest a group wanted twice.
            for (int round = 0; round <= GROUP_ROOM; round++) {
                if (!isToldName(GROUP)) {
                    return false;
                }
                int group = named;
                if (house.wants[group] > 0) {
                    return fails(AGAIN);
                }
                tokens.advance();
                if (!takesWhole(1, 99)) {
                    return false;
                }
                house.wants[group] = amount;
                if (tokens.kind != Tokens.COMMA) {
                    return true;
                }
                tokens.advance();
            }
            return fails(AGAIN);
        }

        private boolean readsOffice() {
            if (into.offices >= OFFICE_ROOM) {
                return fails(MANY);
            }
            Office office = into.desks[into.offices];
            tokens.advance();
            if (!tellsName(OFFICE, into.offices) || !takesOneOf(MISSING_WORDS)) {
                return false;
            }
            office.missing = amount;
            if (!takesOneOf(SEES_WORDS)) {
                return false;
            }
            office.sees = amount;
            if (!takesOneOf(BASKET_WORDS)) {
                return false;
            }
            office.basket = amount;
            into.offices++;
            return true;
        }

        /** Leaves in amount which of the words it is. */
        private boolean takesOneOf(long[] words) {
            for (int i = 0; i < words.length; i++) {
                if (tokens.letters == words[i]) {
                    amount = i;
                    tokens.advance();
                    return true;
                }
            }
            return fails(FORM);
        }

        private boolean takesWord(long word) {
            if (tokens.letters != word) {
                return fails(FORM);
            }
            tokens.advance();
            return true;
        }

        private boolean takesWhole(int least, int most) {
            if (tokens.kind != Tokens.WHOLE) {
                return fails(FORM);
            }
            amount = tokens.whole;
            if (amount < least || amount > most) {
                return fails(BOUNDS);
            }
            tokens.advance();
            return true;
        }

        private boolean tellsName(int sort, int number) {
            if (!isName()) {
                return fails(FORM);
            }
            if (names.knows(tokens.letters)) {
                return fails(AGAIN);
            }
            names.add(tokens.letters, sort, number);
            tokens.advance();
            return true;
        }

        private boolean isName() {
            for (int i = 0; i < NO_NAMES.length; i++) {
                if (tokens.letters == NO_NAMES[i]) {
                    return false;
                }
            }
            return tokens.kind == Tokens.WORD;
        }

        /** Leaves in named which of its sort it is. */
        private boolean isToldName(int sort) {
            if (!isName()) {
                return fails(FORM);
            }
            named = names.numberOf(tokens.letters, sort);
            return named != NONE || fails(NOT_TOLD);
        }

        private boolean usesName(int sort) {
            if (!isToldName(sort)) {
                return false;
            }
            tokens.advance();
            return true;
        }
    }

    /** Things and houses month by month; worked out whole whenever the land or its changes change. */
    private static final class Course {
        final int[][] sizes = new int[THING_ROOM][MONTH_ROOM];
        final int[][] stuffs = new int[THING_ROOM][MONTH_ROOM];
        final int[][] prices = new int[THING_ROOM][MONTH_ROOM];
        /** The latest month up to this one in which a thing is there; 0 if it never was. */
        final int[][] lastThere = new int[THING_ROOM][MONTH_ROOM];
        final int[][] piecesOfAll = new int[THING_ROOM][MONTH_ROOM];
        private final int[][] presence = new int[THING_ROOM][MONTH_ROOM];
        final int[][] bought = new int[HOUSE_ROOM * GROUP_ROOM][MONTH_ROOM];
        final int[][] pieces = new int[HOUSE_ROOM * GROUP_ROOM][MONTH_ROOM];
        private Land land;

        Course(Land land) {
            this.land = land;
        }

        void follow(Land followed) {
            land = followed;
            for (int thing = 0; thing < land.things; thing++) {
                followThing(thing);
            }
            for (int house = 0; house < land.houses; house++) {
                for (int group = 0; group < land.groups; group++) {
                    followWant(house, group);
                }
            }
            for (int thing = 0; thing < land.things; thing++) {
                addUpPieces(thing);
            }
        }

        private void followThing(int thing) {
            Thing line = land.goods[thing];
            sizes[thing][0] = line.size;
            stuffs[thing][0] = line.stuff;
            prices[thing][0] = line.price;
            presence[thing][0] = land.hasCome(thing) ? 0 : 1;
            lastThere[thing][0] = 0;
            for (int month = 1; month < land.months; month++) {
                sizes[thing][month] = sizes[thing][month - 1];
                stuffs[thing][month] = stuffs[thing][month - 1];
                prices[thing][month] = prices[thing][month - 1];
                presence[thing][month] = presence[thing][month - 1];
                applyChanges(thing, month);
                lastThere[thing][month] = isThere(thing, month) ? month : lastThere[thing][month - 1];
            }
        }

        private void applyChanges(int thing, int month) {
            for (int i = 0; i < land.changes; i++) {
                Change change = land.news[i];
                if (change.thing == thing && change.month == month) {
                    applyChange(change);
                }
            }
        }

        private void applyChange(Change change) {
            int t = change.thing;
            int m = change.month;
            switch (change.how) {
                case DEARER:
                    prices[t][m] = Math.min(MOST_PRICE, prices[t][m] + change.by);
                    break;
                case CHEAPER:
                    prices[t][m] = Math.max(LEAST_PRICE, prices[t][m] - change.by);
                    break;
                case SMALLER:
                    sizes[t][m] = Math.max(LEAST_SIZE, sizes[t][m] - change.by);
                    break;
                case THINNER:
                    stuffs[t][m] = Math.max(LEAST_STUFF, stuffs[t][m] - change.by);
                    break;
                case BETTER:
                    stuffs[t][m] = Math.min(MOST_STUFF, stuffs[t][m] + change.by);
                    break;
                case GONE:
                    presence[t][m] = 0;
                    break;
                default:
                    presence[t][m] = 1;
                    break;
            }
        }

        private void followWant(int house, int group) {
            int row = rowOf(house, group);
            int want = land.people[house].wants[group];
            for (int month = 0; month < land.months; month++) {
                int before = month == 0 ? NOTHING_BOUGHT : bought[row][month - 1];
                if (before >= 0 && staysWith(house, before, month)) {
                    bought[row][month] = before;
                    pieces[row][month] = pieces[row][month - 1];
                } else {
                    int best = want > 0 ? bestOf(group, want, month) : NOTHING_BOUGHT;
                    bought[row][month] = best;
                    pieces[row][month] = best >= 0 ? piecesFor(want, best, month) : 0;
                }
            }
        }

        /** Only asked of months from 1 on. */
        private boolean staysWith(int house, int thing, int month) {
            int notices = land.people[house].notices;
            int priceBefore = prices[thing][month - 1];
            int sizeBefore = sizes[thing][month - 1];
            boolean seesDearer = (prices[thing][month] - priceBefore) * 100 > notices * priceBefore;
            boolean seesSmaller = (sizeBefore - sizes[thing][month]) * 100 > notices * sizeBefore;
            return isThere(thing, month) && !seesDearer && !seesSmaller;
        }

        boolean isThere(int thing, int month) {
            return presence[thing][month] == 1;
        }

        private int piecesFor(int want, int thing, int month) {
            int worth = sizes[thing][month] * stuffs[thing][month];
            return (int) downwards(want * 100 + worth - 1, worth, 0);
        }

        private int bestOf(int group, int want, int month) {
            int best = NOTHING_BOUGHT;
            int leastCost = 0;
            for (int thing = 0; thing < land.things; thing++) {
                if (land.goods[thing].group == group && isThere(thing, month)) {
                    int cost = piecesFor(want, thing, month) * prices[thing][month];
                    if (best < 0 || cost < leastCost) {
                        best = thing;
                        leastCost = cost;
                    }
                }
            }
            return best;
        }

        int spending(int house, int month) {
            return (int) costOfBasket(house, month, month);
        }

        /** What a house buys in one month costs by the prices of another; what isn't there then, by its last. */
        private long costOfBasket(int house, int basketMonth, int priceMonth) {
            long cost = 0;
            for (int group = 0; group < land.groups; group++) {
                int row = rowOf(house, group);
                int thing = bought[row][basketMonth];
                if (thing >= 0) {
                    cost += (long) pieces[row][basketMonth] * prices[thing][lastThere[thing][priceMonth]];
                }
            }
            return cost;
        }

        int shortfall(int house, int month) {
            int sum = 0;
            for (int group = 0; group < land.groups; group++) {
                int row = rowOf(house, group);
                int thing = bought[row][month];
                int worth = thing >= 0 ? pieces[row][month] * sizes[thing][month] * stuffs[thing][month] : 0;
                sum += Math.max(0, land.people[house].wants[group] * 100 - worth);
            }
            return sum;
        }

        int trueCost(int house, int month) {
            int sum = 0;
            for (int group = 0; group < land.groups; group++) {
                int want = land.people[house].wants[group];
                int best = want > 0 ? bestOf(group, want, month) : NOTHING_BOUGHT;
                sum += best >= 0 ? piecesFor(want, best, month) * prices[best][month] : 0;
            }
            return sum;
        }

        int livingNumber(int house, int month) {
            return ratio(trueCost(house, month), trueCost(house, 0));
        }

        int firstBasketNumber(int house, int month) {
            return ratio(costOfBasket(house, 0, month), costOfBasket(house, 0, 0));
        }

        /** No change comes ahead of month 1, so month 0 has the prices of the lines, there or not. */
        int latestBasketNumber(int house, int month) {
            return ratio(costOfBasket(house, month, month), costOfBasket(house, month, 0));
        }

        int piecesOf(int house, int thing, int month) {
            int row = rowOf(house, land.goods[thing].group);
            return bought[row][month] == thing ? pieces[row][month] : 0;
        }

        private void addUpPieces(int thing) {
            for (int month = 0; month < land.months; month++) {
                piecesOfAll[thing][month] = 0;
                for (int house = 0; house < land.houses; house++) {
                    piecesOfAll[thing][month] += piecesOf(house, thing, month);
                }
            }
        }

        boolean isBack(int month) {
            for (int thing = 0; thing < land.things; thing++) {
                if (!isAsAtFirst(thing, month)) {
                    return false;
                }
            }
            return true;
        }

        private boolean isAsAtFirst(int thing, int month) {
            if (isThere(thing, month) != isThere(thing, 0)) {
                return false;
            }
            boolean alike = sizes[thing][month] == sizes[thing][0] && stuffs[thing][month] == stuffs[thing][0]
                    && prices[thing][month] == prices[thing][0];
            return alike || !isThere(thing, month);
        }

        int monthLed(int house, int i) {
            int met = 0;
            for (int month = 1; month < land.months; month++) {
                if (isLedIn(house, month)) {
                    if (met == i) {
                        return month;
                    }
                    met++;
                }
            }
            return NONE;
        }

        private boolean isLedIn(int house, int month) {
            for (int group = 0; group < land.groups; group++) {
                int row = rowOf(house, group);
                if (bought[row][month] != bought[row][month - 1]) {
                    return true;
                }
            }
            return false;
        }

        int countWorths(int group, int month, int off) {
            int count = 0;
            for (int a = 0; a <= MOST_FACTOR; a++) {
                for (int b = 0; b <= MOST_FACTOR; b++) {
                    count += isWorth(group, month, off, a, b) ? 1 : 0;
                }
            }
            return count;
        }

        int endOfWorths(int group, int month, int off, int what, boolean most) {
            int end = NONE;
            for (int a = 0; a <= MOST_FACTOR; a++) {
                for (int b = 0; b <= MOST_FACTOR; b++) {
                    int value = what == 0 ? a : b;
                    boolean isFurther = end == NONE || (most ? value > end : value < end);
                    if (isFurther && isWorth(group, month, off, a, b)) {
                        end = value;
                    }
                }
            }
            return end;
        }

        private boolean isWorth(int group, int month, int off, int a, int b) {
            for (int thing = 0; thing < land.things; thing++) {
                if (land.goods[thing].group == group && isThere(thing, month)) {
                    int guess = (a * sizes[thing][month] + b * stuffs[thing][month]) / 100;
                    if (Math.abs(prices[thing][month] - guess) > off) {
                        return false;
                    }
                }
            }
            return true;
        }
    }

    /** The offices' numbers over a course, and what follows from them. */
    private static final class Tally {
        final int[][] numbers = new int[OFFICE_ROOM][MONTH_ROOM];
        private final long[] partsThen = new long[THING_ROOM];
        private final long[] partsAtFirst = new long[THING_ROOM];
        private final Course course;
        private Land land;

        Tally(Course course, Land land) {
            this.course = course;
            this.land = land;
        }

        void follow(Land followed) {
            land = followed;
            course.follow(followed);
            for (int office = 0; office < land.offices; office++) {
                numbers[office][0] = START_NUMBER;
                for (int month = 1; month < land.months; month++) {
                    numbers[office][month] = numberOf(office, month);
                }
            }
        }

        private int numberOf(int office, int month) {
            int list = listMonth(office, month);
            long then = 0;
            long own = 0;
            for (int thing = 0; thing < land.things; thing++) {
                then += partThen(office, thing, list, month);
                own += partInOwnMonth(office, thing, list, month);
            }
            if (land.desks[office].basket != CHAINED) {
                return ratio(then, own);
            }
            int ahead = numbers[office][month - 1];
            return (int) Math.min(MOST_NUMBER, downwards(ahead * then, own, ahead));
        }

        int listMonth(int office, int month) {
            return land.desks[office].basket == CHAINED && month > 0 ? month - 1 : 0;
        }

        private long countOf(int office, int thing, int month) {
            long pieces = course.piecesOfAll[thing][month];
            return land.desks[office].sees == BY_WEIGHT ? pieces * course.sizes[thing][month] : pieces;
        }

        private long seenPrice(int office, int thing, int month) {
            int price = course.prices[thing][month];
            if (land.desks[office].sees != BY_WEIGHT) {
                return price;
            }
            return downwards(price * 1000L, course.sizes[thing][month], 0);
        }

        private boolean isLeftOut(int office, int thing, int month) {
            return land.desks[office].missing == DROP && !course.isThere(thing, month);
        }

        /** What a thing of the list of one month counts for in a later one. */
        long partThen(int office, int thing, int list, int month) {
            long count = countOf(office, thing, list);
            if (count == 0 || isLeftOut(office, thing, month)) {
                return 0;
            }
            int seen = seenInstead(office, thing, month);
            int seenMonth = seen == thing ? course.lastThere[thing][month] : month;
            return count * seenPrice(office, seen, seenMonth);
        }

        private long partInOwnMonth(int office, int thing, int list, int month) {
            if (isLeftOut(office, thing, month)) {
                return 0;
            }
            return countOf(office, thing, list) * seenPrice(office, thing, list);
        }

        /** The thing whose price an office takes: that one itself, unless it isn't there and the rule is near. */
        private int seenInstead(int office, int thing, int month) {
            if (course.isThere(thing, month) || land.desks[office].missing != NEAR) {
                return thing;
            }
            int lastSize = course.sizes[thing][course.lastThere[thing][month]];
            int chosen = thing;
            int leastGap = 0;
            for (int other = 0; other < land.things; other++) {
                if (land.goods[other].group == land.goods[thing].group && course.isThere(other, month)) {
                    int gap = Math.abs(course.sizes[other][month] - lastSize);
                    if (chosen == thing || gap < leastGap) {
                        chosen = other;
                        leastGap = gap;
                    }
                }
            }
            return chosen;
        }

        boolean staysSame(int office) {
            for (int month = 0; month < land.months; month++) {
                if (course.isBack(month) && numbers[office][month] != START_NUMBER) {
                    return false;
                }
            }
            return true;
        }

        boolean seesAll(int office) {
            for (int month = 0; month < land.months; month++) {
                int list = listMonth(office, month);
                for (int thing = 0; thing < land.things; thing++) {
                    if (course.piecesOfAll[thing][list] > 0 && !course.isThere(thing, month)) {
                        return false;
                    }
                }
            }
            return true;
        }

        boolean isNeverBelow(int office) {
            for (int month = 0; month < land.months; month++) {
                for (int house = 0; house < land.houses; house++) {
                    if (numbers[office][month] < course.livingNumber(house, month)) {
                        return false;
                    }
                }
            }
            return true;
        }

        int pensionPaid(int house, int office, int month) {
            long paid = (long) land.people[house].pension * numbers[office][month];
            return (int) (paid / START_NUMBER);
        }

        int shortUpTo(int house, int office, int month) {
            int sum = 0;
            for (int m = 0; m <= month; m++) {
                sum += Math.max(0, course.trueCost(house, m) - pensionPaid(house, office, m));
            }
            return sum;
        }

        int closestOffice(int house, int month) {
            int living = course.livingNumber(house, month);
            int closest = NONE;
            int leastGap = 0;
            for (int office = 0; office < land.offices; office++) {
                int gap = Math.abs(numbers[office][month] - living);
                if (closest == NONE || gap < leastGap) {
                    closest = office;
                    leastGap = gap;
                }
            }
            return closest;
        }

        int closestSet(int k, int month, int office) {
            for (int thing = 0; thing < land.things; thing++) {
                partsThen[thing] = partThen(office, thing, 0, month);
                partsAtFirst[thing] = partInOwnMonth(office, thing, 0, month);
            }
            int living = course.livingNumber(0, month);
            int closest = NO_SUCH_ANSWER;
            int leastGap = 0;
            for (int set = 1; set < 1 << land.things; set++) {
                long own = Integer.bitCount(set) == k ? sumOver(set, partsAtFirst) : 0;
                if (own > 0) {
                    int gap = Math.abs(ratio(sumOver(set, partsThen), own) - living);
                    if (closest < 0 || gap < leastGap) {
                        closest = set;
                        leastGap = gap;
                    }
                }
            }
            return closest;
        }

        private long sumOver(int set, long[] parts) {
            long sum = 0;
            for (int thing = 0; thing < land.things; thing++) {
                sum += (set >> thing & 1) == 1 ? parts[thing] : 0;
            }
            return sum;
        }
    }
}
