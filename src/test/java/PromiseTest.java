/** Each promise of the document, with answers that were worked out by hand. */
public final class PromiseTest {
    private static final int NO = BiscuitLess.NONE;
    private static final int NO_DIFFERENCE = Check.NO_DIFFERENCE;

    private static final String LEAST = Check.LEAST;

    /** Two groups; q gets smaller, then dearer, r goes, s comes dearer than told; p is there all along. */
    private static final String LAND = "months 5;group a;group b;"
        + "thing p of a size 20 stuff 50 price 10;thing q of a size 20 stuff 25 price 4;"
        + "thing r of b size 30 stuff 10 price 7;thing s of b size 10 stuff 10 price 2;"
        + "change q month 1 smaller 2;change q month 2 dearer 1;change r month 3 gone;change s month 4 come;"
        + "change s month 4 dearer 1;"
        + "house h notices 10 pension 50 wants a 25,b 10;house i notices 0 pension 7 wants a 3;"
        + "office o carry piece fixed;office c drop piece chained;office w near weight fixed";

    private PromiseTest() {
    }

    public static void main(String[] args) {
        newObject();
        feed();
        land();
        faults();
        faultsOfCutLines();
        bytesBehind();
        fullLand();
        faultsOfBounds();
        faultsOfRoom();
        where();
        thing();
        thereAndNot();
        buys();
        spentMissedTruly();
        live();
        number();
        numberByNear();
        numberChainedDrifts();
        caps();
        gives();
        beside();
        backAndDrift();
        has();
        instead();
        pensionAndLacks();
        nearest();
        worthsAndSpan();
        hidesAndGain();
        hidesNothing();
        look();
        change();
        changesHaveRoom();
        undo();
        led();
        size();
        trouble();
        Check.end();
    }

    private static void newObject() {
        Check.part("promise 1");
        BiscuitLess x = new BiscuitLess();
        for (int what = 0; what <= 6; what++) {
            Check.due("size(" + what + ")", x.size(what), 0);
        }
        Check.due("trouble()", x.trouble(), 0);
        Check.due("fault()", x.fault(), 0);
        Check.due("where()", x.where(), NO);
        Check.due("thing(0, 0, 0)", x.thing(0, 0, 0), NO);
        Check.refused(x, "back(0)", x.back(0), NO, 1);
        Check.refused(x, "look(1, 0, 0)", x.look(1, 0, 0), NO, 1);
        Check.refused(x, "change(0, 1, 5, 0)", x.change(0, 1, 5, 0), NO, 1);
        Check.refused(x, "worths(0, 0, 0)", x.worths(0, 0, 0), NO, 1);
        Check.due("another object's size(0)", Check.landOf(LEAST).size(0), 2);
        Check.due("size(0) of the first one", x.size(0), 0);
    }

    private static void feed() {
        Check.part("promise 2");
        BiscuitLess x = new BiscuitLess();
        Check.refused(x, "back(0)", x.back(0), NO, 1);
        for (int n = 1; n <= 45; n++) {
            Check.due("feed " + n, x.feed(0, -1, 1, 2, 3), 20 * n);
        }
        Check.due("feed beyond 900", x.feed(1, 2, 3, 4, 5), NO);
        Check.due("size(6)", x.size(6), 900);
        Check.due("trouble() is no matter of feed", x.trouble(), 1);
        BiscuitLess y = new BiscuitLess();
        y.feed(0x67726f75, 0x70206162, 0x63646566, 0x67683b80, 0);
        Check.due("land(20) of group abcdefgh; and byte 128", y.land(20), NO);
        Check.due("its fault", y.fault(), 1);
        Check.due("its place", y.where(), 15);
    }

    private static void land() {
        Check.part("promise 3");
        BiscuitLess x = new BiscuitLess();
        Check.feed(x, LEAST);
        int fed = x.size(6);
        Check.refused(x, "land(-1)", x.land(-1), NO, 2);
        Check.refused(x, "land beyond the tape", x.land(fed + 1), NO, 2);
        Check.due("the tape stays", x.size(6), fed);
        Check.refused(x, "land of less than a land", x.land(10), NO, 4);
        Check.due("the tape is empty", x.size(6), 0);
        Check.due("land", Check.tell(x, LEAST), 1);
        Check.due("trouble()", x.trouble(), 0);
        Check.due("change", x.change(0, 1, 0, 5), 1);
        Check.refused(x, "land(0)", x.land(0), NO, 4);
        Check.due("the land stays", x.thing(0, 1, 2), 6);
        Check.due("land anew", Check.tell(x, LAND), 4);
        Check.due("no change of the former land", x.size(3), 5);
        Check.due("undo()", x.undo(), false);
        Check.due("land back", Check.tell(x, LEAST), 1);
        Check.due("what a house wanted is forgotten", x.buys(0, 1, 0, 0), NO);
        Check.due("and its price", x.thing(0, 0, 2), 1);
        Check.feed(x, LEAST + ";group b");
        Check.due("land of the first bytes", x.land(LEAST.length()), 1);
        Check.due("the rest is gone", x.size(6), 0);
        Check.due("one group", x.size(1), 1);
        Check.due("blanks mean nothing", Check.tell(x, "   " + LEAST.replace(";", "  ;  ") + "  "), 1);
        Check.due("nor do they part 2 and ;", Check.tell(x, LEAST.replace("months 2", "months2")
            .replace("size 10", "size10").replace("months2;", "").concat(";months2")), 1);
    }

    private static void faults() {
        Check.part("promises 4 and 5, faults 1, 2, 3, 6");
        Check.faulty("", 1, 0);
        Check.faulty("   ", 1, 3);
        Check.faulty(";", 1, 0);
        Check.faulty("months", 1, 6);
        Check.faulty("months 2 ", 6, 9);
        Check.faulty("months 2;", 1, 9);
        Check.faulty("months 2x", 1, 8);
        Check.faulty("months 2 3", 1, 9);
        Check.faulty("months 0002", 1, 7);
        Check.faulty("months 002", 6, 10);
        Check.faulty("months a", 1, 7);
        Check.faulty("Months 2", 1, 0);
        Check.faulty("monthss 2", 1, 0);
        Check.faulty("a", 1, 0);
        Check.faulty("7", 1, 0);
        Check.faulty("months\t2", 1, 6);
        Check.faulty("months 2\0", 1, 8);
        Check.faulty("months 2:", 1, 8);
        Check.faulty("group abcdefgh", 6, 14);
        Check.faulty("group abcdefghi", 1, 6);
        Check.faulty("group a,b", 1, 7);
        Check.faulty("group 1", 1, 6);
        for (String word : "months group thing change house office gone come".split(" ")) {
            Check.faulty("group " + word, 1, 6);
            Check.faulty("group a;thing x of " + word, 1, 19);
        }
        for (String word : "month size stuff price of notices pension wants dearer carry piece fixed".split(" ")) {
            Check.faulty("group " + word, 6, 6 + word.length());
        }
        Check.faulty("group a;thing a", 3, 14);
        Check.faulty("group a;thing b of b", 2, 19);
        Check.faulty("group a;thing b off a", 1, 16);
        Check.faulty("group a;thing b of a size ten", 1, 26);
        Check.faulty("group a;thing b of a stuff 10", 1, 21);
        Check.faulty("group a;change a", 2, 15);
        Check.faulty("group a;house a", 3, 14);
        Check.faulty("group a;office a", 3, 15);
        Check.faulty("group a;house h notices 1 pension 1 wants h", 2, 42);
        Check.faulty("group a;house h notices 1 pension 1 wants a 1,", 1, 46);
        Check.faulty("group a;house h notices 1 pension 1 wants a 1,a 1", 3, 46);
        Check.faulty("group a;group b;house h notices 1 pension 1 wants b 1,a 1,b", 3, 58);
        Check.faulty("group a;house h notices 1 pension 1 wants a,", 1, 43);
        Check.faulty("office o carry weight chain", 1, 22);
        Check.faulty("office o lost", 1, 9);
        Check.faulty("office o carry drop", 1, 15);
        Check.faulty("months 2;group a;months 99", 3, 17);
        String thing = "group a;thing x of a size 10 stuff 10 price 1;";
        Check.faulty(thing + "change x month 1 dearer", 1, thing.length() + 23);
        Check.faulty(thing + "change x month 1 gone 1", 1, thing.length() + 22);
        Check.faulty(thing + "change x month 1 bigger 1", 1, thing.length() + 17);
        Check.faulty(LEAST.replace("months 2;", ""), 6, LEAST.length() - 9);
        Check.faulty(LEAST.replace(";office o carry piece fixed", "  "), 6, LEAST.length() - 25);
        Check.faulty(LEAST.replace("house h notices 0 pension 0 wants a 1;", ""), 6, LEAST.length() - 38);
        Check.faulty("months 2;group a;house h notices 0 pension 0 wants a 1;office o carry piece fixed", 6, 81);
        Check.faulty("months 1;;", 4, 7);
        Check.faulty("group a;group b;house h notices 1 pension 1 wants a 1:b 1", 1, 53);
        Check.faulty("group a;group b;house h notices 1 pension 1 wants a 1;b 1", 1, 54);
    }

    /** A line that is cut short is a fault of form, at the end, or at what stands there instead. */
    private static void faultsOfCutLines() {
        Check.part("promises 4 and 5, cut lines");
        StringBuilder ahead = new StringBuilder();
        for (String line : (LEAST + ";change x month 1 dearer 1;change x month 1 gone").split(";")) {
            StringBuilder part = new StringBuilder(ahead);
            for (String token : line.split(" ")) {
                Check.faulty(part.toString(), 1, part.length());
                Check.faulty(part + ";", 1, part.length());
                part.append(token).append(' ');
            }
            ahead.append(line).append(';');
        }
    }

    private static void bytesBehind() {
        Check.part("promise 3, bytes behind the first n");
        BiscuitLess x = new BiscuitLess();
        Check.feed(x, "months 20");
        Check.refused(x, "land(8) of months 20", x.land(8), NO, 4);
        Check.due("lacks alone", x.fault(), 6);
        Check.feed(x, "group abcdefghi");
        Check.refused(x, "land(14) of group abcdefghi", x.land(14), NO, 4);
        Check.due("lacks alone", x.fault(), 6);
    }

    private static void fullLand() {
        Check.part("promise 3, a full land");
        StringBuilder text = new StringBuilder("group a;group b;group c;group d");
        for (char name = 'e'; name <= 'l'; name++) {
            text.append(";thing ").append(name).append(" of d size 10 stuff 10 price 1");
        }
        text.append(";house m notices 0 pension 0 wants d 1,c 1,b 1,a 1;house n notices 0 pension 0 wants a 1");
        text.append(";house o notices 0 pension 0 wants a 1;office p carry piece fixed;office q carry piece fixed");
        Check.faulty(text + ";office q", 3, text.length() + 8);
        Check.faulty(text + ";office a", 3, text.length() + 8);
        text.append(";office r carry piece fixed");
        for (int n = 0; n < 12; n++) {
            text.append(";change l month 1 gone");
        }
        BiscuitLess x = new BiscuitLess();
        Check.due("things", Check.tell(x, text + ";months 12"), 8);
        int[] due = {12, 4, 8, 12, 3, 3};
        for (int what = 0; what < 6; what++) {
            Check.due("size(" + what + ")", x.size(what), due[what]);
        }
        Check.due("look(8, 11, 2)", x.look(8, 11, 2), 255);
        Check.due("lacks(2, 2, 11)", x.lacks(2, 2, 11), 0);
    }

    private static void faultsOfBounds() {
        Check.part("promises 4 and 5, fault 4");
        String group = "group a;";
        String thing = group + "thing x of a size 10 stuff 10 price 1;";
        bounds("months ", 2, 12, "");
        bounds(group + "thing x of a size ", 10, 999, "");
        bounds(group + "thing x of a size 10 stuff ", 10, 200, "");
        bounds(group + "thing x of a size 10 stuff 10 price ", 1, 999, "");
        bounds(thing + "change x month ", 1, 11, "");
        for (String how : "dearer cheaper smaller thinner better".split(" ")) {
            bounds(thing + "change x month 1 " + how + " ", 1, 999, "");
        }
        bounds(group + "house h notices ", 0, 99, "");
        bounds(group + "house h notices 0 pension ", 0, 999, "");
        bounds(group + "house h notices 0 pension 0 wants a ", 1, 99, "");
    }

    /** Within the bounds the fault is a later one; outside them it is at the whole (or no whole at all). */
    private static void bounds(String ahead, int least, int most, String behind) {
        int place = ahead.length();
        if (least > 0) {
            Check.faulty(ahead + (least - 1) + behind, 4, place);
        }
        Check.faulty(ahead + (most + 1) + behind, most == 999 ? 1 : 4, place);
        for (int within : new int[] {least, most}) {
            BiscuitLess x = new BiscuitLess();
            String text = ahead + within + behind;
            Check.tell(x, text);
            Check.due("place in " + text, x.where(), text.length());
        }
    }

    private static void faultsOfRoom() {
        Check.part("promises 4 and 5, fault 5");
        fills("group a;", "group ", "", 3);
        fills("group a;", "thing ", " of a size 10 stuff 10 price 1", 8);
        fills("group a;", "house ", " notices 0 pension 0 wants a 1", 3);
        fills("group a;", "office ", " drop weight fixed", 3);
        StringBuilder text = new StringBuilder("group a;thing x of a size 10 stuff 10 price 1");
        for (int n = 0; n < 16; n++) {
            text.append(";change x month 1 gone");
        }
        Check.faulty(text.toString(), 6, text.length());
        Check.faulty(text + ";change ?", 5, text.length() + 1);
    }

    private static void fills(String ahead, String first, String rest, int room) {
        StringBuilder text = new StringBuilder(ahead);
        for (int n = 0; n < room; n++) {
            text.append(n == 0 ? "" : ";").append(first).append((char) ('p' + n)).append(rest);
        }
        Check.faulty(text.toString(), 6, text.length());
        Check.faulty(text + ";" + first + "!", 5, text.length() + 1);
    }

    private static void where() {
        Check.part("promises 4 and 5");
        BiscuitLess x = new BiscuitLess();
        Check.tell(x, "months 1");
        Check.due("where()", x.where(), 7);
        x.thing(0, 0, 0);
        x.size(0);
        x.feed(0, 0, 0, 0, 0);
        Check.due("where() behind calls that can't be refused", x.where(), 7);
        x.land(21);
        Check.due("fault() behind one refused by 2", x.fault(), 4);
        Check.due("where() behind it", x.where(), NO);
        x.land(1);
        Check.due("fault()", x.fault(), 1);
        Check.due("where()", x.where(), 0);
        Check.tell(x, LEAST);
        Check.due("fault() of a land", x.fault(), 0);
        Check.due("where() of a land", x.where(), NO);
    }

    private static void thing() {
        Check.part("promise 6");
        BiscuitLess x = Check.landOf("months 12;group z;group a;thing x of a size 500 stuff 100 price 500;"
            + "change x month 5 dearer 999;change x month 2 dearer 10;change x month 2 cheaper 999;"
            + "change x month 2 better 50;change x month 3 better 999;change x month 4 thinner 999;"
            + "change x month 4 smaller 100;change x month 11 smaller 999;"
            + "house h notices 0 pension 0 wants a 1;office o carry piece fixed");
        int[][] due = {{0, 500, 100, 500}, {1, 500, 100, 500}, {2, 500, 150, 1}, {3, 500, 200, 1}, {4, 400, 10, 1},
            {5, 400, 10, 999}, {10, 400, 10, 999}, {11, 10, 10, 999}};
        for (int[] row : due) {
            for (int what = 0; what < 3; what++) {
                Check.due("thing(0, " + row[0] + ", " + what + ")", x.thing(0, row[0], what), row[what + 1]);
            }
        }
        Check.due("thing(0, 3, 4)", x.thing(0, 3, 4), 1);
        Check.due("a THING too few", x.thing(-1, 0, 0), NO);
        Check.due("a THING too many", x.thing(1, 0, 0), NO);
        Check.due("a MONTH too few", x.thing(0, -1, 0), NO);
        Check.due("a MONTH too many", x.thing(0, 12, 0), NO);
        Check.due("what too few", x.thing(0, 0, -1), NO);
        Check.due("what too many", x.thing(0, 0, 5), NO);
        Check.due("trouble()", x.trouble(), 0);
    }

    private static void thereAndNot() {
        Check.part("promise 6, THERE");
        BiscuitLess x = Check.landOf("months 7;group a;thing x of a size 10 stuff 10 price 1;"
            + "thing y of a size 10 stuff 10 price 1;thing z of a size 10 stuff 10 price 1;"
            + "thing u of a size 10 stuff 10 price 1;"
            + "change x month 5 come;change x month 2 come;change x month 4 gone;change x month 1 gone;"
            + "change y month 3 gone;change z month 11 come;change u month 2 come;change u month 2 gone;"
            + "change y month 5 dearer 3;house h notices 0 pension 0 wants a 1;office o carry piece fixed");
        String[] there = {"0011011", "1110000", "0000000", "0000000"};
        for (int t = 0; t < there.length; t++) {
            for (int m = 0; m < 7; m++) {
                Check.due("thing(" + t + ", " + m + ", 3)", x.thing(t, m, 3), there[t].charAt(m) - '0');
            }
        }
        Check.due("PRICE as if THERE", x.thing(1, 6, 2), 4);
    }

    private static void buys() {
        Check.part("promise 7");
        BiscuitLess x = Check.landOf(LAND);
        int[][] groupA = {{1, 5}, {1, 5}, {0, 3}, {0, 3}, {0, 3}};
        int[][] groupB = {{2, 4}, {2, 4}, {2, 4}, {-2, 0}, {3, 10}};
        for (int m = 0; m < 5; m++) {
            for (int what = 0; what < 2; what++) {
                Check.due("buys(0, 0, " + m + ", " + what + ")", x.buys(0, 0, m, what), groupA[m][what]);
                Check.due("buys(0, 1, " + m + ", " + what + ")", x.buys(0, 1, m, what), groupB[m][what]);
            }
            Check.due("buys(1, 0, " + m + ", 0)", x.buys(1, 0, m, 0), 1);
            Check.due("buys(1, 0, " + m + ", 1)", x.buys(1, 0, m, 1), 1);
        }
        Check.refused(x, "a GROUP it doesn't want", x.buys(1, 1, 0, 0), NO, 1);
        Check.refused(x, "no HOUSE", x.buys(2, 0, 0, 0), NO, 1);
        Check.refused(x, "no HOUSE below", x.buys(-1, 0, 0, 0), NO, 1);
        Check.refused(x, "no GROUP", x.buys(0, 2, 0, 0), NO, 1);
        Check.refused(x, "no GROUP below", x.buys(0, -1, 0, 0), NO, 1);
        Check.refused(x, "no MONTH", x.buys(0, 0, 5, 0), NO, 1);
        Check.refused(x, "no MONTH below", x.buys(0, 0, -1, 0), NO, 1);
        Check.refused(x, "no what", x.buys(0, 0, 0, 2), NO, 1);
        Check.refused(x, "no what below", x.buys(0, 0, 0, -1), NO, 1);
        Check.refused(x, "one that is", x.buys(0, 0, 0, 0), 1, 0);
        BiscuitLess upwards = Check.landOf(LEAST.replace("size 10 stuff 10", "size 11 stuff 11").replace("wants a 1", "wants a 23"));
        Check.due("2300 by 121, upwards", upwards.buys(0, 0, 0, 1), 20);
        BiscuitLess even = Check.landOf(LEAST.replace("wants a 1", "wants a 99"));
        Check.due("9900 by 100", even.buys(0, 0, 0, 1), 99);
    }

    private static void spentMissedTruly() {
        Check.part("promises 8, 9, 10");
        BiscuitLess x = Check.landOf(LAND);
        int[] spent = {48, 48, 58, 30, 60};
        int[] missed = {0, 250, 0, 1000, 0};
        int[] truly = {48, 52, 58, 30, 60};
        for (int m = 0; m < 5; m++) {
            Check.due("spent(0, " + m + ")", x.spent(0, m), spent[m]);
            Check.due("missed(0, " + m + ")", x.missed(0, m), missed[m]);
            Check.due("truly(0, " + m + ")", x.truly(0, m), truly[m]);
        }
        Check.due("spent(1, 2)", x.spent(1, 2), 5);
        for (int wrong : new int[] {-1, 2}) {
            Check.refused(x, "spent of no HOUSE", x.spent(wrong, 0), NO, 1);
            Check.refused(x, "missed of no HOUSE", x.missed(wrong, 0), NO, 1);
            Check.refused(x, "truly of no HOUSE", x.truly(wrong, 0), NO, 1);
        }
        for (int wrong : new int[] {-1, 5}) {
            Check.refused(x, "spent in no MONTH", x.spent(0, wrong), NO, 1);
            Check.refused(x, "missed in no MONTH", x.missed(0, wrong), NO, 1);
            Check.refused(x, "truly in no MONTH", x.truly(0, wrong), NO, 1);
        }
        Check.refused(x, "spent", x.spent(0, 0), 48, 0);
    }

    private static void live() {
        Check.part("promise 11");
        BiscuitLess x = Check.landOf(LAND);
        int[] live = {10000, 10833, 12083, 6250, 12500};
        for (int m = 0; m < 5; m++) {
            Check.due("live(0, " + m + ")", x.live(0, m), live[m]);
        }
        Check.refused(x, "live of no HOUSE", x.live(2, 0), NO, 1);
        Check.refused(x, "live in no MONTH", x.live(0, 5), NO, 1);
        BiscuitLess late = Check.landOf(LEAST + ";change x month 1 come");
        Check.due("TRULY of nothing", late.truly(0, 0), 0);
        Check.due("LIVE by nothing", late.live(0, 1), 10000);
    }

    private static void number() {
        Check.part("promise 12");
        BiscuitLess x = Check.landOf(LAND);
        int[][] due = {{10000, 10000, 11153, 11153, 11153}, {10000, 10000, 11153, 11153, 11153},
            {10000, 10508, 11778, 11778, 13325}};
        for (int o = 0; o < 3; o++) {
            for (int m = 0; m < 5; m++) {
                Check.due("number(" + o + ", " + m + ")", x.number(o, m), due[o][m]);
            }
        }
        Check.refused(x, "no OFFICE", x.number(3, 0), NO, 1);
        Check.refused(x, "no OFFICE below", x.number(-1, 0), NO, 1);
        Check.refused(x, "no MONTH", x.number(0, 5), NO, 1);
        Check.refused(x, "no MONTH below", x.number(0, -1), NO, 1);
        Check.refused(x, "one that is", x.number(0, 0), 10000, 0);
    }

    private static void numberByNear() {
        Check.part("promise 12, near and drop");
        // x goes with its last size of 40 (price 12): y (35, price 9) and z (45, price 20) are as near, y comes first.
        String told = "months 4;group a;group b;thing n of b size 40 stuff 10 price 50;thing x of a size 50 stuff 20 price 10;"
            + "thing y of a size 35 stuff 10 price 9;thing z of a size 45 stuff 10 price 20;"
            + "change x month 1 dearer 2;change x month 1 smaller 10;change x month 2 gone;"
            + "change x month 2 smaller 15;change x month 2 dearer 30;change y month 3 gone;"
            + "house h notices 99 pension 0 wants a 10,b 4;";
        BiscuitLess x = Check.landOf(told + "office o near piece fixed;office c carry piece fixed;office d drop piece fixed");
        // Of month 0: one x at 10, one n at 50.
        int[][] due = {{10333, 9833, 11666}, {10333, 10333, 10333}, {10333, 10000, 10000}};
        for (int o = 0; o < 3; o++) {
            for (int m = 1; m < 4; m++) {
                Check.due("number(" + o + ", " + m + ")", x.number(o, m), due[o][m - 1]);
            }
        }
        BiscuitLess chained = Check.landOf(told + "office o near piece chained;office d drop piece chained;"
            + "office w drop weight chained");
        // Month 1: 62 for 60; month 2 by the list of month 1: 59 for 62; y is bought then, z from month 3 on.
        Check.due("number(0, 2)", chained.number(0, 2), 9833);
        Check.due("buys in month 2", chained.buys(0, 0, 2, 0), 2);
        Check.due("pieces in month 2", chained.buys(0, 0, 2, 1), 3);
        Check.due("number(0, 3): (3 * 20 + 50) / (3 * 9 + 50)", chained.number(0, 3), 9833 * 110 / 77);
        Check.due("number(1, 3)", chained.number(1, 3), 10333);
        Check.due("number(2, 1): (50 * 300 + 40 * 1250) / (50 * 200 + 40 * 1250)", chained.number(2, 1), 10833);
    }

    private static void numberChainedDrifts() {
        Check.part("promises 12, 15, 16, 17: a chain that doesn't come back");
        // y costs more till x is dearer; then the house goes to y, and back when y is gone for a month.
        BiscuitLess x = Check.landOf("months 4;group a;thing x of a size 10 stuff 10 price 10;"
            + "thing y of a size 10 stuff 10 price 12;change x month 1 dearer 10;change y month 2 dearer 12;"
            + "change x month 3 cheaper 10;change y month 3 cheaper 12;"
            + "house h notices 5 pension 0 wants a 1;office c carry piece chained;office f carry piece fixed");
        int[] bought = {0, 1, 0, 0};
        int[] chained = {10000, 20000, 40000, 20000};
        for (int m = 0; m < 4; m++) {
            Check.due("buys(0, 0, " + m + ", 0)", x.buys(0, 0, m, 0), bought[m]);
            Check.due("number(0, " + m + ")", x.number(0, m), chained[m]);
        }
        Check.due("back(3)", x.back(3), 1);
        Check.due("back(2)", x.back(2), 0);
        Check.due("drift(0, 3)", x.drift(0, 3), 10000);
        Check.due("drift(1, 3)", x.drift(1, 3), 0);
        Check.due("has(0, 0)", x.has(0, 0), 0);
        Check.due("has(1, 0)", x.has(1, 0), 1);
    }

    private static void caps() {
        Check.part("promises 11, 12, 18: at most 1,000,000");
        BiscuitLess x = Check.landOf("months 4;group a;thing x of a size 10 stuff 10 price 1;"
            + "change x month 1 dearer 998;change x month 2 cheaper 998;house h notices 0 pension 999 wants a 1;"
            + "office f carry piece fixed;office c carry piece chained;office w carry weight chained");
        for (int o = 0; o < 3; o++) {
            Check.due("number(" + o + ", 1)", x.number(o, 1), 1000000);
        }
        Check.due("number(0, 2)", x.number(0, 2), 10000);
        Check.due("number(1, 2), on from the kept one", x.number(1, 2), 1001);
        Check.due("live(0, 1)", x.live(0, 1), 1000000);
        Check.due("instead(0, 1, 0)", x.instead(0, 1, 0), 1000000);
        Check.due("instead(0, 1, 1)", x.instead(0, 1, 1), 1000000);
        Check.due("pension(0, 0, 1)", x.pension(0, 0, 1), 99900);
    }

    private static void gives() {
        Check.part("promise 13");
        BiscuitLess x = Check.landOf(LAND);
        Check.due("gives(0, 1, 0)", x.gives(0, 1, 0), 24);
        Check.due("gives(0, 0, 0)", x.gives(0, 0, 0), 0);
        Check.due("gives(0, 1, 2)", x.gives(0, 1, 2), 30);
        Check.due("gives(0, 2, 3) carried", x.gives(0, 2, 3), 28);
        Check.due("gives(0, 0, 3) isn't of the LIST of MONTH 0", x.gives(0, 0, 3), 0);
        Check.due("gives(1, 0, 3) is of that of MONTH 2", x.gives(1, 0, 3), 30);
        Check.due("gives(1, 2, 3) is left out", x.gives(1, 2, 3), 0);
        Check.due("gives(1, 1, 0)", x.gives(1, 1, 0), 24);
        Check.due("gives(2, 1, 0)", x.gives(2, 1, 0), 24000);
        Check.due("gives(2, 2, 3) as carry, with none near", x.gives(2, 2, 3), 27960);
        Check.due("gives(2, 2, 4) near", x.gives(2, 2, 4), 36000);
        Check.refused(x, "no OFFICE", x.gives(3, 0, 0), NO, 1);
        Check.refused(x, "no THING", x.gives(0, 4, 0), NO, 1);
        Check.refused(x, "no THING below", x.gives(0, -1, 0), NO, 1);
        Check.refused(x, "no MONTH", x.gives(0, 0, 5), NO, 1);
        BiscuitLess much = Check.landOf("months 2;group a;group b;thing x of a size 109 stuff 10 price 999;"
            + "change x month 1 smaller 99;house h notices 99 pension 0 wants a 99;office w carry weight fixed");
        Check.due("gives of ten pieces of 109 at 99,900", much.gives(0, 0, 1), 108891000L);
        Check.due("number", much.number(0, 1), 109001);
    }

    private static void beside() {
        Check.part("promise 14");
        BiscuitLess x = Check.landOf(LAND);
        Check.due("beside(0, 0, 1)", x.beside(0, 0, 1), -833);
        Check.due("beside(2, 0, 3)", x.beside(2, 0, 3), 5528);
        Check.due("beside(0, 1, 2)", x.beside(0, 1, 2), 11153 - 12500);
        Check.refused(x, "no OFFICE", x.beside(3, 0, 0), NO_DIFFERENCE, 1);
        Check.refused(x, "no HOUSE", x.beside(0, 2, 0), NO_DIFFERENCE, 1);
        Check.refused(x, "no MONTH", x.beside(0, 0, 5), NO_DIFFERENCE, 1);
        Check.refused(x, "one that is", x.beside(0, 0, 0), 0, 0);
    }

    private static void backAndDrift() {
        Check.part("promises 15 and 16");
        BiscuitLess x = Check.landOf("months 8;group a;thing x of a size 50 stuff 50 price 10;"
            + "thing y of a size 50 stuff 50 price 10;change y month 7 come;"
            + "change x month 1 better 5;change x month 2 thinner 5;change x month 3 gone;change y month 4 dearer 1;"
            + "house h notices 0 pension 0 wants a 1;office o carry piece fixed");
        int[] due = {1, 0, 1, 0, 0, 0, 0, 0};
        for (int m = 0; m < 8; m++) {
            Check.due("back(" + m + ")", x.back(m), due[m]);
        }
        Check.due("x comes: it isn't there at first either", x.change(0, 6, 6, 0), 6);
        Check.due("back(0)", x.back(0), 1);
        Check.due("back(1), STUFF of what isn't there is no matter", x.back(1), 1);
        Check.due("back(4), nor is PRICE", x.back(4), 1);
        Check.due("back(6)", x.back(6), 0);
        Check.refused(x, "back(8)", x.back(8), NO, 1);
        Check.refused(x, "back(-1)", x.back(-1), NO, 1);
        Check.refused(x, "drift(0, 4)", x.drift(0, 4), 0, 0);
        Check.refused(x, "drift(0, 6)", x.drift(0, 6), NO_DIFFERENCE, 5);
        Check.refused(x, "drift(1, 0)", x.drift(1, 0), NO_DIFFERENCE, 1);
        Check.refused(x, "drift(0, 8)", x.drift(0, 8), NO_DIFFERENCE, 1);
        Check.refused(x, "drift(1, 6), 1 ahead of 5", x.drift(1, 6), NO_DIFFERENCE, 1);
        BiscuitLess sizes = Check.landOf(LEAST + ";change x month 1 better 1");
        Check.due("STUFF alone", sizes.back(1), 0);
        Check.due("PRICE alone", Check.landOf(LEAST + ";change x month 1 dearer 1").back(1), 0);
        Check.due("SIZE alone", Check.landOf(LEAST.replace("size 10", "size 20") + ";change x month 1 smaller 1").back(1), 0);
    }

    private static void has() {
        Check.part("promise 17");
        BiscuitLess x = Check.landOf(LAND);
        int[][] due = {{1, 0, 0}, {1, 0, 0}, {1, 0, 0}};
        for (int o = 0; o < 3; o++) {
            for (int what = 0; what < 3; what++) {
                Check.due("has(" + o + ", " + what + ")", x.has(o, what), due[o][what]);
            }
        }
        Check.refused(x, "no what", x.has(0, 3), NO, 1);
        Check.refused(x, "no what below", x.has(0, -1), NO, 1);
        Check.refused(x, "no OFFICE", x.has(3, 0), NO, 1);
        BiscuitLess calm = Check.landOf(LEAST);
        for (int what = 0; what < 3; what++) {
            Check.refused(calm, "has of a calm land", calm.has(0, what), 1, 0);
        }
        // x goes in the last month but is bought only till the month ahead of it is the chained list.
        BiscuitLess seen = Check.landOf("months 3;group a;thing x of a size 10 stuff 10 price 1;"
            + "thing y of a size 10 stuff 10 price 2;change x month 1 dearer 9;change x month 2 gone;"
            + "house h notices 0 pension 0 wants a 1;office f carry piece fixed;office c carry piece chained");
        Check.due("fixed still sums x", seen.has(0, 1), 0);
        Check.due("chained sums y then", seen.has(1, 1), 1);
        Check.due("never below", seen.has(0, 2), 1);
        BiscuitLess two = Check.landOf("months 2;group a;group b;thing x of a size 10 stuff 10 price 10;"
            + "thing y of b size 10 stuff 10 price 10;change y month 1 dearer 10;"
            + "house h notices 0 pension 0 wants a 1;house i notices 0 pension 0 wants b 1;office f carry piece fixed");
        Check.due("of each HOUSE", two.has(0, 2), 0);
    }

    private static void instead() {
        Check.part("promise 18");
        BiscuitLess x = Check.landOf(LAND);
        int[][] due = {{10000, 10000}, {10000, 10000}, {11041, 10000}, {11041, 10000}, {11041, 12000}};
        for (int m = 0; m < 5; m++) {
            for (int side = 0; side < 2; side++) {
                Check.due("instead(0, " + m + ", " + side + ")", x.instead(0, m, side), due[m][side]);
            }
        }
        Check.refused(x, "no side", x.instead(0, 0, 2), NO, 1);
        Check.refused(x, "no side below", x.instead(0, 0, -1), NO, 1);
        Check.refused(x, "no HOUSE", x.instead(2, 0, 0), NO, 1);
        Check.refused(x, "no MONTH", x.instead(0, 5, 0), NO, 1);
        BiscuitLess late = Check.landOf(LEAST + ";change x month 1 come;change x month 1 dearer 1");
        Check.due("10,000 by 0", late.instead(0, 1, 0), 10000);
        Check.due("by its LINE", late.instead(0, 1, 1), 20000);
        Check.due("nothing at first", late.instead(0, 0, 1), 10000);
        // The price at which a thing went counts, not what it would have been.
        BiscuitLess gone = Check.landOf(LEAST.replace("months 2", "months 4").replace("price 1", "price 10")
            + ";change x month 1 dearer 5;change x month 2 gone;change x month 2 dearer 90");
        Check.due("by the last one", gone.instead(0, 3, 0), 15000);
    }

    private static void pensionAndLacks() {
        Check.part("promises 19 and 20");
        BiscuitLess x = Check.landOf(LAND);
        Check.due("pension(0, 0, 0)", x.pension(0, 0, 0), 50);
        Check.due("pension(0, 0, 2)", x.pension(0, 0, 2), 55);
        Check.due("pension(1, 2, 4)", x.pension(1, 2, 4), 9);
        int[] due = {0, 2, 5, 5, 10};
        for (int m = 0; m < 5; m++) {
            Check.due("lacks(0, 0, " + m + ")", x.lacks(0, 0, m), due[m]);
        }
        for (int wrong : new int[] {-1, 5}) {
            Check.refused(x, "pension of no HOUSE", x.pension(wrong, 0, 0), NO, 1);
            Check.refused(x, "pension of no OFFICE", x.pension(0, wrong, 0), NO, 1);
            Check.refused(x, "pension of no MONTH", x.pension(0, 0, wrong), NO, 1);
            Check.refused(x, "lacks of no HOUSE", x.lacks(wrong, 0, 0), NO, 1);
            Check.refused(x, "lacks of no OFFICE", x.lacks(0, wrong, 0), NO, 1);
            Check.refused(x, "lacks of no MONTH", x.lacks(0, 0, wrong), NO, 1);
        }
        Check.refused(x, "one that is", x.lacks(0, 0, 0), 0, 0);
    }

    private static void nearest() {
        Check.part("promise 21");
        BiscuitLess x = Check.landOf(LAND);
        int[] due = {0, 2, 2, 0, 2};
        for (int m = 0; m < 5; m++) {
            Check.due("nearest(0, " + m + ")", x.nearest(0, m), due[m]);
        }
        Check.refused(x, "no HOUSE", x.nearest(2, 0), NO, 1);
        Check.refused(x, "no MONTH", x.nearest(0, 5), NO, 1);
    }

    private static void worthsAndSpan() {
        Check.part("promises 22 and 23");
        BiscuitLess x = Check.landOf(LAND);
        // r alone: 3a + b from 70 to 79.
        Check.due("worths(1, 0, 0)", x.worths(1, 0, 0), 25);
        Check.due("least a", x.span(1, 0, 0, 0, false), 17);
        Check.due("most a", x.span(1, 0, 0, 0, true), 20);
        Check.due("least b", x.span(1, 0, 0, 1, false), 10);
        Check.due("most b", x.span(1, 0, 0, 1, true), 20);
        Check.due("off by 7 and all fit", x.worths(1, 0, 7), 441);
        Check.due("of none THERE all fit", x.worths(1, 3, 0), 441);
        Check.due("and most a is 20", x.span(1, 3, 0, 0, true), 20);
        Check.due("and least b is 0", x.span(1, 3, 0, 1, false), 0);
        Check.due("both things of a: none", x.worths(0, 0, 0), 0);
        Check.refused(x, "span of none", x.span(0, 0, 0, 0, true), NO, 6);
        Check.refused(x, "worths of off by 999", x.worths(0, 0, 999), 441, 0);
        Check.refused(x, "off by 1000", x.worths(0, 0, 1000), NO, 2);
        Check.refused(x, "off by -1", x.worths(0, 0, -1), NO, 2);
        Check.refused(x, "span off by 1000", x.span(0, 0, 1000, 0, true), NO, 2);
        Check.refused(x, "span off by -1", x.span(0, 0, -1, 0, true), NO, 2);
        Check.refused(x, "1 ahead of 2", x.worths(2, 0, -1), NO, 1);
        Check.refused(x, "no GROUP below", x.worths(-1, 0, 0), NO, 1);
        Check.refused(x, "no MONTH", x.worths(0, 5, 0), NO, 1);
        Check.refused(x, "span of no GROUP", x.span(2, 0, 0, 0, true), NO, 1);
        Check.refused(x, "span in no MONTH", x.span(0, 5, 0, 0, true), NO, 1);
        Check.refused(x, "span of no what", x.span(0, 0, 1000, 2, true), NO, 1);
        Check.refused(x, "span of no what below", x.span(0, 0, 0, -1, true), NO, 1);
    }

    private static void hidesAndGain() {
        Check.part("promises 24 and 25");
        // z is new in month 1, so that no list has it, and nobody knows what it was.
        BiscuitLess x = Check.landOf("months 2;group a;thing z of a size 50 stuff 20 price 10;change z month 1 come;"
            + "house h notices 0 pension 0 wants a 30;office o carry piece fixed");
        int[][] gains = {{10, 30, 8, 30}, {5, 15, 4, 10}, {16, 48, 16, 48}, {99, 297, 297, 297}};
        for (int[] row : gains) {
            for (int how = 0; how < 3; how++) {
                Check.due("gain(0, 1, " + row[0] + ", " + how + ")", x.gain(0, 1, row[0], how), row[how + 1]);
            }
        }
        Check.refused(x, "hides(0, 1, 10, 0), the first of like ones", x.hides(0, 1, 10, 0), 0, 0);
        Check.due("nothing was changed", x.size(3), 1);
        Check.due("nor its size", x.thing(0, 1, 0), 50);
        BiscuitLess known = Check.landOf("months 2;group a;thing z of a size 50 stuff 20 price 10;"
            + "thing y of a size 50 stuff 20 price 11;house h notices 20 pension 0 wants a 30;"
            + "office o carry piece fixed;office w carry weight fixed");
        Check.due("dearer raises the number, smaller isn't seen", known.hides(0, 1, 10, 0), 2);
        Check.due("GAIN smaller 10 of 50", known.gain(0, 1, 10, 1), 6);
        Check.due("GAIN thinner 10 of 20", known.gain(0, 1, 10, 2), 15);
        Check.due("by weight only thinner is left", known.hides(0, 1, 10, 1), 2);
        Check.due("GAIN dearer where the house goes away", known.gain(0, 1, 3, 0), 0);
        Check.due("GAIN dearer where it stays", known.gain(0, 1, 2, 0), 6);
        Check.refused(known, "no THING", known.hides(2, 1, 1, 0), NO, 1);
        Check.refused(known, "MONTH 0", known.hides(0, 0, 1, 0), NO, 1);
        Check.refused(known, "no MONTH", known.hides(0, 2, 1, 0), NO, 1);
        Check.refused(known, "no OFFICE", known.hides(0, 1, 1, 2), NO, 1);
        Check.refused(known, "by 0", known.hides(0, 1, 0, 0), NO, 2);
        Check.refused(known, "by 100", known.hides(0, 1, 100, 0), NO, 2);
        Check.refused(known, "1 ahead of 2", known.hides(0, 0, 0, 0), NO, 1);
        Check.refused(known, "gain of no THING", known.gain(-1, 1, 1, 0), NO, 1);
        Check.refused(known, "gain in MONTH 0", known.gain(0, 0, 1, 0), NO, 1);
        Check.refused(known, "gain by no HOW", known.gain(0, 1, 100, 3), NO, 1);
        Check.refused(known, "gain by no HOW below", known.gain(0, 1, 1, -1), NO, 1);
        Check.refused(known, "gain by 0", known.gain(0, 1, 0, 0), NO, 2);
        Check.refused(known, "gain by 100", known.gain(0, 1, 100, 0), NO, 2);
        Check.due("z goes", known.change(0, 1, 5, 0), 1);
        Check.refused(known, "hides of what isn't THERE", known.hides(0, 1, 1, 0), NO, 1);
        Check.refused(known, "gain of what isn't THERE", known.gain(0, 1, 1, 0), NO, 1);
    }

    private static void hidesNothing() {
        Check.part("promise 24, none, and where behind all told changes matters");
        // The house looks anew in month 1, when x and y cost the same: whatever is done to x, it goes to y.
        BiscuitLess x = Check.landOf("months 2;group a;thing x of a size 20 stuff 20 price 9;"
            + "thing y of a size 20 stuff 20 price 10;change x month 1 dearer 1;"
            + "house h notices 0 pension 0 wants a 4;office o carry piece fixed");
        Check.refused(x, "hides(0, 1, 1, 0)", x.hides(0, 1, 1, 0), -2, 0);
        Check.due("gain(0, 1, 1, 1)", x.gain(0, 1, 1, 1), 0);
        // y isn't bought at all: nothing is gained, nobody leaves, the first way is as good as any.
        Check.due("hides(1, 1, 1, 0)", x.hides(1, 1, 1, 0), 0);
        BiscuitLess told = Check.landOf("months 2;group a;thing x of a size 100 stuff 20 price 990;"
            + "change x month 1 smaller 10;change x month 1 cheaper 490;"
            + "house h notices 99 pension 0 wants a 20;office o carry piece fixed");
        Check.due("PRICE and SIZE of that MONTH: 500 * 9 / 90", told.gain(0, 1, 9, 1), 50);
        BiscuitLess bound = Check.landOf("months 2;group a;thing x of a size 100 stuff 20 price 999;"
            + "house h notices 99 pension 0 wants a 20;office o carry piece fixed");
        Check.due("dearer at the bound isn't seen", bound.hides(0, 1, 99, 0), 2);
        Check.due("yet counts so much", bound.gain(0, 1, 99, 0), 99);
        Check.due("thinner: 999 * 99 / 20", bound.gain(0, 1, 99, 2), 4945);
    }

    private static void look() {
        Check.part("promise 26");
        BiscuitLess x = Check.landOf(LAND);
        int[] due = {2, 3, 11, 15};
        for (int k = 1; k <= 4; k++) {
            Check.due("look(" + k + ", 2, 0)", x.look(k, 2, 0), due[k - 1]);
        }
        Check.due("look(1, 3, 1), r left out", x.look(1, 3, 1), 2);
        Check.due("look(1, 3, 0), r carried", x.look(1, 3, 0), 4);
        Check.due("look(1, 0, 0)", x.look(1, 0, 0), 2);
        Check.refused(x, "k 0", x.look(0, 0, 0), NO, 2);
        Check.refused(x, "k 5", x.look(5, 0, 0), NO, 2);
        Check.refused(x, "no MONTH", x.look(0, 5, 0), NO, 1);
        Check.refused(x, "no OFFICE", x.look(0, 0, 3), NO, 1);
        BiscuitLess gone = Check.landOf(LEAST.replace("carry", "drop") + ";change x month 1 gone");
        Check.refused(gone, "nothing to look at", gone.look(1, 1, 0), -2, 0);
        Check.due("in MONTH 0", gone.look(1, 0, 0), 1);
    }

    private static void change() {
        Check.part("promise 27");
        BiscuitLess x = Check.landOf(LEAST.replace("months 2", "months 3").replace("size 10", "size 500")
            .replace("stuff 10", "stuff 100").replace("price 1", "price 100"));
        Check.due("dearer", x.change(0, 1, 0, 20), 1);
        Check.due("cheaper", x.change(0, 2, 1, 50), 2);
        Check.due("smaller", x.change(0, 1, 2, 100), 3);
        Check.due("thinner", x.change(0, 1, 3, 30), 4);
        Check.due("better", x.change(0, 2, 4, 999), 5);
        int[][] due = {{500, 100, 100, 1}, {400, 70, 120, 1}, {400, 200, 70, 1}};
        for (int m = 0; m < 3; m++) {
            for (int what = 0; what < 4; what++) {
                Check.due("thing(0, " + m + ", " + what + ")", x.thing(0, m, what), due[m][what]);
            }
        }
        Check.due("gone, by is of no matter", x.change(0, 2, 5, -7), 6);
        Check.due("thing(0, 2, 3)", x.thing(0, 2, 3), 0);
        Check.due("come, by is of no matter", x.change(0, 1, 6, 100000), 7);
        Check.due("thing(0, 0, 3)", x.thing(0, 0, 3), 0);
        Check.due("thing(0, 1, 3)", x.thing(0, 1, 3), 1);
        Check.due("numbers go with it", x.number(0, 1), 10000);
        Check.refused(x, "no THING", x.change(1, 1, 0, 0), NO, 1);
        Check.refused(x, "MONTH 0", x.change(0, 0, 0, 0), NO, 1);
        Check.refused(x, "no MONTH", x.change(0, 3, 0, 0), NO, 1);
        Check.refused(x, "no HOW", x.change(0, 1, 7, 0), NO, 1);
        Check.refused(x, "no HOW below", x.change(0, 1, -1, 0), NO, 1);
        for (int how = 0; how < 5; how++) {
            Check.refused(x, "by 0", x.change(0, 1, how, 0), NO, 2);
            Check.refused(x, "by 1000", x.change(0, 1, how, 1000), NO, 2);
        }
        Check.refused(x, "by 999", x.change(0, 1, 0, 999), 8, 0);
    }

    private static void changesHaveRoom() {
        Check.part("promises 24, 25, 27: 20 changes");
        BiscuitLess x = Check.landOf(LEAST);
        for (int n = 1; n <= 19; n++) {
            Check.due("change " + n, x.change(0, 1, 0, 1), n);
        }
        Check.refused(x, "gain with 19", x.gain(0, 1, 1, 2), 2, 0);
        Check.due("change 20", x.change(0, 1, 0, 1), 20);
        Check.refused(x, "change 21", x.change(0, 1, 0, 1), NO, 3);
        Check.refused(x, "change 21 by 0, 2 ahead of 3", x.change(0, 1, 0, 0), NO, 2);
        Check.refused(x, "change 21 come", x.change(0, 1, 6, 0), NO, 3);
        Check.refused(x, "hides with 20", x.hides(0, 1, 1, 0), NO, 3);
        Check.refused(x, "hides by 0, 2 ahead of 3", x.hides(0, 1, 0, 0), NO, 2);
        Check.refused(x, "gain with 20", x.gain(0, 1, 1, 0), NO, 3);
        Check.due("price", x.thing(0, 1, 2), 21);
    }

    private static void undo() {
        Check.part("promise 28");
        BiscuitLess x = Check.landOf(LEAST + ";change x month 1 dearer 1");
        Check.refused(x, "undo of a told one", x.undo() ? 1 : 0, 0, 6);
        x.change(0, 1, 0, 5);
        x.change(0, 1, 0, 50);
        Check.due("price", x.thing(0, 1, 2), 57);
        Check.refused(x, "undo of the latest", x.undo() ? 1 : 0, 1, 0);
        Check.due("price", x.thing(0, 1, 2), 7);
        Check.due("changes", x.size(3), 2);
        Check.due("number", x.number(0, 1), 70000);
        Check.refused(x, "undo of the one ahead", x.undo() ? 1 : 0, 1, 0);
        Check.refused(x, "undo of none", x.undo() ? 1 : 0, 0, 6);
        Check.due("price", x.thing(0, 1, 2), 2);
    }

    private static void led() {
        Check.part("promise 29");
        BiscuitLess x = Check.landOf(LAND);
        Check.due("led(0, 0): another", Check.led(x, 0, 0), 2);
        Check.due("led(0, 1): none", Check.led(x, 0, 1), 3);
        Check.due("led(0, 2): had none", Check.led(x, 0, 2), 4);
        Check.due("led(0, 3)", Check.led(x, 0, 3), Check.THROWN);
        Check.due("led(0, -1)", Check.led(x, 0, -1), Check.THROWN);
        Check.due("led(1, 0)", Check.led(x, 1, 0), Check.THROWN);
        x.back(9);
        Check.due("led(2, 0)", Check.led(x, 2, 0), Check.THROWN);
        Check.due("led(-1, 0)", Check.led(x, -1, 0), Check.THROWN);
        Check.due("trouble() is no matter of led", x.trouble(), 1);
    }

    private static void size() {
        Check.part("promise 30");
        BiscuitLess x = Check.landOf(LAND);
        int[] due = {5, 2, 4, 5, 2, 3, 0};
        for (int what = 0; what < 7; what++) {
            Check.due("size(" + what + ")", x.size(what), due[what]);
        }
        Check.due("size(7)", x.size(7), NO);
        Check.due("size(-1)", x.size(-1), NO);
        x.feed(0, 0, 0, 0, 0);
        x.change(0, 1, 0, 1);
        Check.due("size(6)", x.size(6), 20);
        Check.due("size(3)", x.size(3), 6);
        Check.due("trouble()", x.trouble(), 0);
    }

    private static void trouble() {
        Check.part("promise 31");
        BiscuitLess x = Check.landOf(LAND);
        x.live(9, 9);
        Check.due("trouble()", x.trouble(), 1);
        x.thing(9, 9, 9);
        x.thing(0, 0, 0);
        x.size(9);
        x.fault();
        x.where();
        Check.led(x, 0, 0);
        Check.led(x, 9, 9);
        x.feed(0x20202020, 0x20202020, 0x20202020, 0x20202020, 0x20202020);
        Check.due("trouble() behind calls of which no number is told", x.trouble(), 1);
        for (int call = 0; call < 23; call++) {
            x.back(9);
            Check.due("trouble() ahead", x.trouble(), 1);
            answered(x, call);
            Check.due("trouble() behind call " + call + ", which isn't refused", x.trouble(), 0);
        }
    }

    private static void answered(BiscuitLess x, int call) {
        switch (call) {
            case 0 -> x.back(0);
            case 1 -> x.buys(0, 0, 0, 0);
            case 2 -> x.spent(0, 0);
            case 3 -> x.missed(0, 0);
            case 4 -> x.truly(0, 0);
            case 5 -> x.live(0, 0);
            case 6 -> x.number(0, 0);
            case 7 -> x.gives(0, 0, 0);
            case 8 -> x.beside(0, 0, 0);
            case 9 -> x.drift(0, 0);
            case 10 -> x.has(0, 0);
            case 11 -> x.instead(0, 0, 0);
            case 12 -> x.pension(0, 0, 0);
            case 13 -> x.lacks(0, 0, 0);
            case 14 -> x.nearest(0, 0);
            case 15 -> x.worths(0, 0, 0);
            case 16 -> x.span(0, 0, 999, 0, true);
            case 17 -> x.hides(0, 1, 1, 0);
            case 18 -> x.gain(0, 1, 1, 0);
            case 19 -> x.look(1, 0, 0);
            case 20 -> x.change(0, 1, 0, 1);
            case 21 -> x.undo();
            default -> {
                Check.feed(x, LEAST);
                x.land(x.size(6));
            }
        }
    }
}
