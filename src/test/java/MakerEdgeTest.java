/** The edges of WORTHS, HIDES and LOOK in Terms III, and of promises 22 to 28. */
public final class MakerEdgeTest {
    private static final int NO = BiscuitLess.NONE;
    private static final String REST = "house h notices 0 pension 0 wants a 1;office o carry piece fixed";

    private MakerEdgeTest() {
    }

    public static void main(String[] args) {
        pairsUpToTwenty();
        offBySoMuchAtMost();
        worthsDownwards();
        worthsOfEachThingThere();
        worthsOfNone();
        gainBySizeWithoutTheChange();
        gainByFewAndMany();
        gainAtABound();
        behindAllToldChanges();
        whereItIsThere();
        noHouseBuysFewer();
        numberNoGreater();
        numberInThatMonth();
        mostGainFirstSuch();
        hidesByNone();
        roomForATrial();
        trialsLeaveAll();
        lookForEachNumber();
        lookAtTheLesserBits();
        lookAtNoSumOfNothing();
        lookForTheFirstHouse();
        lookByFixed();
        lookByMissing();
        lookAtNone();
        changeByEachHow();
        changeUpToTwenty();
        undoOnlyWhatWasChanged();
        undoBehindALand();
        Check.end();
    }

    private static BiscuitLess thing(int size, int stuff, int price) {
        return Check.landOf("months 2;group a;thing x of a size " + size + " stuff " + stuff + " price " + price + ";" + REST);
    }

    /** How many pairs, then the least and the greatest of a and of b. */
    private static void worths(BiscuitLess x, int group, int month, int off, int... due) {
        String what = " of GROUP " + group + " in MONTH " + month + " off by " + off;
        Check.refused(x, "WORTHS" + what, x.worths(group, month, off), due[0], 0);
        int why = due[0] == 0 ? 6 : 0;
        for (int i = 0; i < 4; i++) {
            long got = x.span(group, month, off, i / 2, i % 2 == 1);
            Check.refused(x, "span " + i + what, got, due[0] == 0 ? NO : due[i + 1], why);
        }
    }

    // ---- worths

    private static void pairsUpToTwenty() {
        Check.part("III: WORTHS: pairs a, b (0 .. 20 each)");
        // Of 10 and 10 a pair tells a tenth of its sum, downwards: 4 is told by 20 and 20 alone.
        worths(thing(10, 10, 4), 0, 0, 0, 1, 20, 20, 20, 20);
        worths(thing(10, 10, 5), 0, 0, 0, 0);
        worths(thing(10, 10, 5), 0, 0, 1, 1, 20, 20, 20, 20);
        worths(thing(10, 10, 3), 0, 0, 0, 65, 10, 20, 10, 20);
        worths(thing(999, 200, 2), 0, 0, 0, 1, 0, 0, 1, 1);
        worths(thing(999, 200, 1), 0, 0, 0, 0);
        worths(thing(999, 200, 1), 0, 0, 1, 2, 0, 0, 0, 1);
    }

    private static void offBySoMuchAtMost() {
        Check.part("III: WORTHS: off by t at most, above and below; 22: t 0 .. 999");
        worths(thing(10, 10, 999), 0, 0, 999, 441, 0, 20, 0, 20);
        worths(thing(10, 10, 999), 0, 0, 998, 386, 0, 20, 0, 20);
        worths(thing(10, 10, 999), 0, 0, 997, 231, 0, 20, 0, 20);
        worths(thing(10, 10, 999), 0, 0, 995, 1, 20, 20, 20, 20);
        worths(thing(10, 10, 999), 0, 0, 994, 0);
        worths(thing(10, 10, 4), 0, 0, 1, 66, 10, 20, 10, 20);
        worths(thing(10, 10, 1), 0, 0, 1, 375, 0, 20, 0, 20);
        worths(thing(999, 200, 2), 0, 0, 2, 3, 0, 0, 0, 2);
        worths(thing(999, 200, 2), 0, 0, 1, 1, 0, 0, 1, 1);
    }

    private static void worthsDownwards() {
        Check.part("III: WORTHS: (a times SIZE and b times STUFF) by 100, downwards");
        worths(thing(99, 10, 1), 0, 0, 0, 21, 0, 2, 0, 19);
        worths(thing(100, 200, 1), 0, 0, 0, 1, 1, 1, 0, 0);
        worths(thing(101, 200, 1), 0, 0, 0, 1, 1, 1, 0, 0);
        worths(thing(199, 200, 1), 0, 0, 0, 1, 1, 1, 0, 0);
        worths(thing(200, 100, 1), 0, 0, 0, 1, 0, 0, 1, 1);
    }

    private static void worthsOfEachThingThere() {
        Check.part("III: WORTHS: of each THING of it that is THERE");
        BiscuitLess x = Check.landOf("months 5;group a;group b;thing x of a size 10 stuff 10 price 4;"
            + "thing z of b size 10 stuff 10 price 900;thing y of a size 20 stuff 10 price 6;change y month 1 dearer 1;"
            + "change y month 2 gone;change x month 3 cheaper 3;change x month 4 gone;" + REST);
        worths(x, 0, 0, 0, 1, 20, 20, 20, 20);
        worths(x, 0, 1, 0, 0);
        worths(x, 0, 1, 1, 1, 20, 20, 20, 20);
        // Of x 20 at least in sum, of y twice a and b 50 at least.
        worths(x, 0, 1, 2, 36, 15, 20, 10, 20);
        worths(x, 0, 2, 0, 1, 20, 20, 20, 20);
        worths(x, 0, 3, 0, 155, 0, 19, 0, 19);
        worths(x, 0, 4, 0, 441, 0, 20, 0, 20);
        worths(x, 1, 0, 0, 0);
    }

    private static void worthsOfNone() {
        Check.part("III: WORTHS of a GROUP with no THING");
        BiscuitLess x = Check.landOf("months 2;group b;group a;thing x of a size 10 stuff 10 price 5;" + REST);
        worths(x, 0, 0, 0, 441, 0, 20, 0, 20);
        worths(x, 0, 1, 999, 441, 0, 20, 0, 20);
        worths(x, 1, 1, 0, 0);
    }

    // ---- makers

    /** One of x is bought, of 10,000 for 9,900, whatever is done to it. */
    private static BiscuitLess one(String changes, String offices) {
        return Check.landOf("months 3;group a;thing x of a size 100 stuff 100 price 10;" + changes
            + "house h notices 99 pension 0 wants a 1;" + offices);
    }

    private static void gainBySizeWithoutTheChange() {
        Check.part("III: GAIN: by its SIZE (STUFF) without the change, downwards");
        BiscuitLess x = one("", "office o carry piece fixed");
        int[][] due = {{1, 1, 0, 0}, {9, 9, 0, 0}, {10, 10, 1, 1}, {19, 19, 1, 1}, {20, 20, 2, 2}, {99, 99, 9, 9}};
        for (int[] row : due) {
            Check.row("GAIN by " + row[0], how -> x.gain(0, 1, row[0], how), row[1], row[2], row[3], NO);
            Check.row("and in the last MONTH", how -> x.gain(0, 2, row[0], how), row[1], row[2], row[3], NO);
        }
        BiscuitLess half = one("change x month 1 smaller 50;change x month 1 better 100;change x month 1 dearer 2;",
            "office o carry piece fixed");
        Check.row("of SIZE 50, STUFF 200 and PRICE 12", how -> half.gain(0, 1, 40, how), 40, 9, 2, NO);
    }

    private static void gainByFewAndMany() {
        Check.part("III: GAIN: by all pieces that are bought of it then with that change");
        BiscuitLess x = Check.landOf("months 2;group a;thing x of a size 40 stuff 40 price 10;"
            + "thing y of a size 10 stuff 10 price 9;house h notices 0 pension 0 wants a 80;"
            + "house i notices 99 pension 0 wants a 20;house j notices 0 pension 0 wants a 1;office o carry piece fixed");
        // Five, two of x, and one of y; smaller by 20: h has ten, i two; thinner by 20: as before.
        Check.row("GAIN by 20", how -> x.gain(0, 1, 20, how), 140, 60, 35, NO);
        Check.row("GAIN of y, which is as small and thin as may be", how -> x.gain(1, 1, 20, how), 0, 18, 18, NO);
        // At 109 i goes to twenty of y for 180; h stays, since eighty of y are dearer than five of x.
        Check.due("GAIN by 99", x.gain(0, 1, 99, 0), 99 * 5);
        BiscuitLess left = Check.landOf("months 2;group a;thing x of a size 10 stuff 10 price 10;"
            + "thing y of a size 10 stuff 10 price 11;house h notices 0 pension 0 wants a 1;office o carry piece fixed");
        Check.due("GAIN of a THING as dear as the next one", left.gain(0, 1, 1, 0), 1);
        Check.due("GAIN of one dearer than it", left.gain(0, 1, 2, 0), 0);
    }

    private static void gainAtABound() {
        Check.part("III: GAIN: so much, though the change is kept within the bounds of a LINE");
        BiscuitLess x = Check.landOf("months 2;group a;thing x of a size 10 stuff 10 price 999;" + REST);
        Check.row("GAIN by 99", how -> x.gain(0, 1, 99, how), 99, 9890, 9890, NO);
        Check.row("GAIN by 1", how -> x.gain(0, 1, 1, how), 1, 99, 99, NO);
        Check.due("nobody sees any of it, the first such", x.hides(0, 1, 99, 0), 1);
    }

    private static void behindAllToldChanges() {
        Check.part("III: HIDES: behind all told changes");
        // Behind: 120 less 50, two pieces. Ahead it would be 10 and 100 more, one piece.
        String thing = "months 2;group a;thing x of a size 10 stuff 20 price 10;change x month 1 come;";
        String rest = "house h notices 0 pension 0 wants a 10;office o carry piece fixed";
        BiscuitLess told = Check.landOf(thing + "change x month 1 better 100;" + rest);
        Check.due("GAIN behind a told change", told.gain(0, 1, 50, 2), 8);
        BiscuitLess changed = Check.landOf(thing + rest);
        changed.change(0, 1, 4, 100);
        Check.due("GAIN behind one that change() told", changed.gain(0, 1, 50, 2), 8);
    }

    private static void whereItIsThere() {
        Check.part("24 and 25: not THERE then: 1");
        BiscuitLess x = Check.landOf("months 5;group a;thing x of a size 10 stuff 10 price 9;change x month 1 come;"
            + "change x month 2 gone;change x month 4 come;" + REST);
        int[] why = {1, 0, 1, 1, 0, 1};
        for (int m = 0; m < why.length; m++) {
            Check.refused(x, "hides in MONTH " + m, x.hides(0, m, 1, 0), why[m] == 0 ? 0 : NO, why[m]);
            Check.refused(x, "gain in MONTH " + m, x.gain(0, m, 1, 0), why[m] == 0 ? 1 : NO, why[m]);
            Check.refused(x, "hides by 0 in MONTH " + m, x.hides(0, m, 0, 0), NO, why[m] == 0 ? 2 : 1);
        }
    }

    private static void noHouseBuysFewer() {
        Check.part("III: HIDES: no HOUSE buys fewer pieces of it than without");
        // Smaller by 60: h goes to y, which is less than three of x; i has two instead of one: two, as before.
        BiscuitLess x = Check.landOf("months 2;group a;thing x of a size 100 stuff 100 price 10;"
            + "thing y of a size 100 stuff 100 price 25;house h notices 0 pension 0 wants a 99;"
            + "house i notices 0 pension 0 wants a 70;office o carry piece fixed");
        Check.row("GAIN", how -> x.gain(0, 1, 60, how), 0, 12, 12, NO);
        Check.due("HIDES", x.hides(0, 1, 60, 0), 2);
        // With i alone, which has more of it, smaller is the first such.
        BiscuitLess i = Check.landOf("months 2;group a;thing x of a size 100 stuff 100 price 10;"
            + "thing y of a size 100 stuff 100 price 25;house i notices 0 pension 0 wants a 70;office o carry piece fixed");
        Check.row("GAIN", how -> i.gain(0, 1, 60, how), 0, 12, 6, NO);
        Check.due("HIDES", i.hides(0, 1, 60, 0), 1);
        // Of a house that has another thing none is none fewer.
        Check.row("GAIN of y", how -> i.gain(1, 1, 60, how), 0, 0, 0, NO);
        Check.due("HIDES of y", i.hides(1, 1, 60, 0), 0);
    }

    private static void numberNoGreater() {
        Check.part("III: HIDES: NUMBER of an OFFICE is no greater than without");
        BiscuitLess x = one("", "office p carry piece fixed;office w carry weight fixed;office c carry piece chained");
        Check.due("by piece, smaller by 20", x.hides(0, 1, 20, 0), 1);
        Check.due("by weight, thinner", x.hides(0, 1, 20, 1), 2);
        Check.due("by a chain of pieces", x.hides(0, 1, 20, 2), 1);
        // So little that a number doesn't show it: less than a 10,000th of all that is bought.
        BiscuitLess little = Check.landOf("months 2;group a;group b;thing x of a size 10 stuff 10 price 1;"
            + "thing y of b size 10 stuff 10 price 999;house h notices 99 pension 0 wants a 1,b 99;"
            + "office o carry piece fixed");
        Check.due("GAIN of dearer", little.gain(0, 1, 1, 0), 1);
        Check.due("dearer by 1 of 98,902", little.hides(0, 1, 1, 0), 0);
        Check.due("dearer by 9 of 98,902", little.hides(0, 1, 9, 0), 0);
        Check.due("dearer by 10 of 98,902 is a 10,000th more", little.hides(0, 1, 10, 0), 1);
    }

    private static void numberInThatMonth() {
        Check.part("III: HIDES: in that MONTH");
        // In month 2 x is gone and near p, which is dearer the nearer in size x was; month 1 alone is asked.
        BiscuitLess x = Check.landOf("months 3;group a;thing p of a size 90 stuff 100 price 50;"
            + "thing q of a size 140 stuff 100 price 20;thing x of a size 120 stuff 200 price 10;change x month 2 gone;"
            + "house h notices 99 pension 0 wants a 1;office n near piece fixed");
        Check.row("NUMBER", m -> x.number(0, m), 10000, 10000, 20000);
        Check.due("smaller by 20 in MONTH 1", x.hides(2, 1, 20, 0), 1);
        Check.due("and it would be seen in MONTH 2", x.change(2, 1, 2, 20), 2);
        Check.row("NUMBER", m -> x.number(0, m), 10000, 10000, 50000);
    }

    private static void mostGainFirstSuch() {
        Check.part("III: HIDES: the one with most GAIN, the first such");
        String rest = "change x month 1 come;house h notices 0 pension 0 wants a 1;office o carry piece fixed";
        // New in month 1, so that no number has it: all three hide, and GAIN decides.
        int[][] due = {{100, 100, 100, 0}, {100, 100, 101, 0}, {100, 100, 102, 1}, {100, 99, 101, 2}, {99, 100, 101, 1},
            {101, 100, 102, 2}, {10, 10, 999, 1}, {999, 200, 1, 0}};
        for (int[] row : due) {
            BiscuitLess x = Check.landOf("months 2;group a;thing x of a size " + row[0] + " stuff " + row[1] + " price "
                + row[2] + ";" + rest);
            int by = row[0] > 10 && row[0] < 999 ? 89 : 1;
            Check.due("HIDES of " + row[0] + ", " + row[1] + ", " + row[2], x.hides(0, 1, by, 0), row[3]);
        }
    }

    private static void hidesByNone() {
        Check.part("24: -2 for none");
        BiscuitLess x = Check.landOf("months 2;group a;thing x of a size 20 stuff 20 price 9;"
            + "thing y of a size 20 stuff 20 price 10;change x month 1 dearer 1;house h notices 0 pension 0 wants a 4;"
            + "office o carry piece fixed");
        Check.refused(x, "whatever is done to x, the house goes to y", x.hides(0, 1, 1, 0), -2, 0);
        Check.row("GAIN", how -> x.gain(0, 1, 1, how), 0, 0, 0, NO);
    }

    private static void roomForATrial() {
        Check.part("24 and 25: there are 20 changes: 3");
        BiscuitLess x = Check.landOf(Check.LEAST + ";change x month 1 dearer 1".repeat(16));
        for (int n = 17; n <= 19; n++) {
            Check.due("change()", x.change(0, 1, 0, 1), n);
        }
        Check.refused(x, "hides with 19", x.hides(0, 1, 1, 0), 1, 0);
        Check.refused(x, "gain with 19", x.gain(0, 1, 1, 0), 1, 0);
        Check.due("change()", x.change(0, 1, 0, 1), 20);
        Check.refused(x, "hides with 20", x.hides(0, 1, 1, 0), NO, 3);
        Check.refused(x, "gain with 20", x.gain(0, 1, 1, 0), NO, 3);
        Check.refused(x, "hides with 20, by 100", x.hides(0, 1, 100, 0), NO, 2);
        Check.refused(x, "gain with 20, by no HOW", x.gain(0, 1, 1, 3), NO, 1);
        x.undo();
        Check.refused(x, "hides with 19 again", x.hides(0, 1, 1, 0), 1, 0);
        Check.refused(x, "gain with 19 again", x.gain(0, 1, 1, 0), 1, 0);
    }

    private static void trialsLeaveAll() {
        Check.part("24 and 25: HIDES and GAIN change nothing");
        BiscuitLess x = one("change x month 2 gone;", "office p near piece fixed;office w drop weight chained");
        x.change(0, 1, 0, 3);
        String before = Answers.of(x);
        for (int how = 0; how < 3; how++) {
            x.gain(0, 1, 99, how);
            x.hides(0, 1, 99, how);
            Check.due("all answers are as before", Answers.of(x).equals(before), true);
        }
        Check.due("and undo() takes back what change() told", x.undo(), true);
        Check.due("alone", x.undo(), false);
        Check.due("its PRICE", x.thing(0, 1, 2), 10);
    }

    // ---- men

    /** x, y and z of their own groups, for 10 each, at first and then so dear. */
    private static BiscuitLess three(int x, int y, int z) {
        String group = "group a;group b;group c;thing x of a size 10 stuff 10 price 10;thing y of b size 10 stuff 10 price 10;"
            + "thing z of c size 10 stuff 10 price 10;";
        return Check.landOf("months 2;" + group + change("x", x) + change("y", y) + change("z", z)
            + "house h notices 0 pension 0 wants a 1,b 1,c 1;office o carry piece fixed");
    }

    private static String change(String name, int price) {
        return price == 10 ? "" : "change " + name + " month 1 " + (price > 10 ? "dearer " + (price - 10) : "cheaper "
            + (10 - price)) + ";";
    }

    private static void lookForEachNumber() {
        Check.part("26: k (1 .. THINGS)");
        Check.row("20, 10, 15: 15,000 is looked for", k -> three(20, 10, 15).look(k, 1, 0), NO, 4, 3, 7, NO);
        Check.row("10, 20, 18: 16,000 is looked for", k -> three(10, 20, 18).look(k, 1, 0), NO, 4, 3, 7, NO);
        Check.row("12, 30, 15: 19,000 is looked for", k -> three(12, 30, 15).look(k, 1, 0), NO, 4, 3, 7, NO);
        Check.row("MONTH 0", k -> three(12, 30, 15).look(k, 0, 0), NO, 1, 3, 7, NO);
        BiscuitLess x = three(10, 20, 18);
        for (int wrong : new int[] {0, -1, 4, 8, 9, Integer.MIN_VALUE, Integer.MAX_VALUE}) {
            Check.refused(x, "look(" + wrong + ", 1, 0)", x.look(wrong, 1, 0), NO, 2);
        }
    }

    private static void lookAtTheLesserBits() {
        Check.part("III: LOOK: of like ones the lesser bits");
        Check.row("15, 15, 15", k -> three(15, 15, 15).look(k, 1, 0), NO, 1, 3, 7);
        Check.row("not the lesser bits, but the nearest: 20, 10, 60", k -> three(20, 10, 60).look(k, 1, 0), NO, 1, 6, 7);
        Check.row("10, 30, 5", k -> three(10, 30, 5).look(k, 1, 0), NO, 1, 6, 7);
        for (String dearer : new String[] {"x", "y"}) {
            BiscuitLess two = Check.landOf("months 2;group a;group b;thing x of a size 10 stuff 10 price 10;"
                + "thing y of b size 10 stuff 10 price 10;change " + dearer + " month 1 dearer 10;"
                + "house h notices 0 pension 0 wants a 1,b 1;office o carry piece fixed");
            Check.row("10,000 and 20,000 by 15,000", k -> two.look(k, 1, 0), NO, 1, 3, NO);
        }
        BiscuitLess four = Check.landOf("months 2;group a;group b;group c;group d;thing x of a size 10 stuff 10 price 10;"
            + "thing y of b size 10 stuff 10 price 10;thing z of c size 10 stuff 10 price 10;"
            + "thing w of d size 10 stuff 10 price 10;change y month 1 dearer 10;change z month 1 cheaper 5;"
            + "change w month 1 dearer 15;house h notices 0 pension 0 wants a 1,b 1,c 1,d 1;office o carry piece fixed");
        Check.row("10, 20, 5, 25", k -> four.look(k, 1, 0), NO, 1, 3, 14, 15, NO);
    }

    private static void lookAtNoSumOfNothing() {
        Check.part("III: LOOK: with a sum of 0 to go by: no such set");
        // w and v aren't bought; alone they are no set, with x they change nothing.
        BiscuitLess x = Check.landOf("months 2;group a;thing w of a size 10 stuff 10 price 90;"
            + "thing x of a size 10 stuff 10 price 10;thing v of a size 10 stuff 10 price 90;" + REST);
        Check.row("MONTH 0", k -> x.look(k, 0, 0), NO, 2, 3, 7, NO);
        Check.row("MONTH 1", k -> x.look(k, 1, 0), NO, 2, 3, 7, NO);
        // w and v alone would tell 10,000, which is what is looked for: x tells 20,000.
        BiscuitLess thin = Check.landOf("months 2;group a;thing w of a size 10 stuff 10 price 10;"
            + "thing x of a size 10 stuff 10 price 5;thing v of a size 10 stuff 10 price 90;change x month 1 dearer 5;"
            + "change w month 1 cheaper 5;" + REST);
        Check.due("LIVE", thin.live(0, 1), 10000);
        Check.row("look", k -> thin.look(k, 1, 0), NO, 2, 3, 7, NO);
    }

    private static void lookForTheFirstHouse() {
        Check.part("III: LOOK: nearest to LIVE of the first HOUSE");
        String land = "months 2;group a;group b;thing x of a size 10 stuff 10 price 10;thing y of b size 10 stuff 10 price 10;"
            + "change y month 1 dearer 10;office o carry piece fixed;";
        String h = "house h notices 0 pension 0 wants a 1";
        String i = "house i notices 0 pension 0 wants b 1";
        Check.due("of a", Check.landOf(land + h + ";" + i).look(1, 1, 0), 1);
        Check.due("of b", Check.landOf(land + i + ";" + h).look(1, 1, 0), 2);
    }

    private static void lookByFixed() {
        Check.part("III: LOOK: by fixed, whatever the OFFICE's basket");
        // To live takes 20,000 from month 1 on, since x is thinner; y costs twice as much.
        BiscuitLess x = Check.landOf("months 3;group a;group b;thing x of a size 10 stuff 20 price 10;"
            + "thing y of b size 10 stuff 10 price 10;change x month 1 thinner 10;change y month 1 dearer 10;"
            + "house h notices 0 pension 0 wants a 2;house i notices 0 pension 0 wants b 1;office f carry piece fixed;"
            + "office c carry piece chained");
        Check.row("LIVE", m -> x.live(0, m), 10000, 20000, 20000);
        Check.row("fixed", m -> x.look(1, m, 0), 1, 2, 2, NO);
        Check.row("chained", m -> x.look(1, m, 1), 1, 2, 2, NO);
    }

    private static void lookByMissing() {
        Check.part("III: LOOK: MISSING and SEES as its own");
        // x goes when it costs as much as at first; z, which is near it, costs twice as much, and y gets smaller.
        BiscuitLess x = Check.landOf("months 2;group a;group b;thing x of a size 20 stuff 10 price 10;"
            + "thing y of b size 20 stuff 10 price 10;thing z of a size 10 stuff 10 price 20;change x month 1 gone;"
            + "change y month 1 dearer 2;change y month 1 smaller 10;house h notices 99 pension 0 wants a 1,b 1;"
            + "office c carry piece fixed;office n near piece fixed;office d drop weight fixed");
        Check.due("LIVE: 32 of 20", x.live(0, 1), 16000);
        Check.row("carry: 10,000 and 12,000", k -> x.look(k, 1, 0), NO, 2, 6, 7, NO);
        Check.row("near: 20,000 and 12,000", k -> x.look(k, 1, 1), NO, 1, 3, 7, NO);
        Check.row("drop, by weight: y alone, 24,000", k -> x.look(k, 1, 2), NO, 2, 3, 7, NO);
    }

    private static void lookAtNone() {
        Check.part("26: -2 for none");
        BiscuitLess dropped = Check.landOf(Check.LEAST.replace("carry", "drop") + ";thing y of a size 10 stuff 10 price 9;"
            + "change x month 1 gone");
        Check.row("MONTH 0", k -> dropped.look(k, 0, 0), NO, 1, 3, NO);
        Check.row("MONTH 1", k -> dropped.look(k, 1, 0), NO, -2, -2, NO);
        Check.refused(dropped, "look(1, 1, 0)", dropped.look(1, 1, 0), -2, 0);
        BiscuitLess late = Check.landOf(Check.LEAST + ";change x month 1 come");
        Check.refused(late, "look(1, 0, 0) with nothing bought", late.look(1, 0, 0), -2, 0);
        Check.refused(late, "look(1, 1, 0) with nothing bought in MONTH 0", late.look(1, 1, 0), -2, 0);
    }

    // ---- changes

    private static void changeByEachHow() {
        Check.part("27: HOW 0 .. 6, by 1 .. 999, of gone and come by is of no matter");
        int[][] due = {{999, 10, 10, 1}, {1, 10, 10, 1}, {500, 10, 10, 1}, {500, 10, 10, 1}, {500, 10, 200, 1}};
        for (int how = 0; how <= 4; how++) {
            BiscuitLess x = thing(10, 10, 500);
            for (int wrong : new int[] {0, -1, 1000, Integer.MIN_VALUE, Integer.MAX_VALUE}) {
                Check.refused(x, "change by " + wrong, x.change(0, 1, how, wrong), NO, 2);
            }
            Check.due("size(3)", x.size(3), 0);
            Check.refused(x, "change by 999", x.change(0, 1, how, 999), 1, 0);
            Check.due("PRICE", x.thing(0, 1, 2), due[how][0]);
            Check.due("SIZE", x.thing(0, 1, 0), due[how][1]);
            Check.due("STUFF", x.thing(0, 1, 1), due[how][2]);
            Check.due("THERE", x.thing(0, 1, 3), due[how][3]);
            x = thing(20, 20, 500);
            Check.refused(x, "change by 1", x.change(0, 1, how, 1), 1, 0);
            Check.due("PRICE", x.thing(0, 1, 2), how == 0 ? 501 : how == 1 ? 499 : 500);
            Check.due("SIZE", x.thing(0, 1, 0), how == 2 ? 19 : 20);
            Check.due("STUFF", x.thing(0, 1, 1), how == 3 ? 19 : how == 4 ? 21 : 20);
        }
        for (int any : new int[] {0, -1, 1, 999, 1000, Integer.MIN_VALUE, Integer.MAX_VALUE}) {
            BiscuitLess x = thing(10, 10, 500);
            Check.refused(x, "gone by " + any, x.change(0, 1, 5, any), 1, 0);
            Check.row("THERE", m -> x.thing(0, m, 3), 1, 0);
            Check.refused(x, "come by " + any, x.change(0, 1, 6, any), 2, 0);
            Check.row("THERE", m -> x.thing(0, m, 3), 0, 1);
        }
    }

    private static void changeUpToTwenty() {
        Check.part("27: 20 are: 3");
        BiscuitLess x = Check.landOf(Check.LEAST + ";change x month 1 dearer 1".repeat(16));
        for (int n = 17; n <= 20; n++) {
            Check.refused(x, "change()", x.change(0, 1, 0, 1), n, 0);
        }
        String before = Answers.of(x);
        for (int how = 0; how <= 6; how++) {
            Check.refused(x, "change() by " + how, x.change(0, 1, how, 1), NO, 3);
        }
        Check.due("all answers are as before", Answers.of(x).equals(before), true);
        Check.due("size(3)", x.size(3), 20);
        Check.due("PRICE", x.thing(0, 1, 2), 21);
        x.undo();
        Check.refused(x, "change() with 19", x.change(0, 1, 1, 10), 20, 0);
        Check.due("PRICE", x.thing(0, 1, 2), 10);
    }

    private static void undoOnlyWhatWasChanged() {
        Check.part("28: the latest change that change() told goes again; 6 (there is none)");
        BiscuitLess x = Check.landOf(Check.LEAST + ";change x month 1 dearer 1".repeat(16));
        Check.refused(x, "undo() of told ones", x.undo() ? 1 : 0, 0, 6);
        String[] before = new String[5];
        for (int n = 0; n < 4; n++) {
            before[n] = Answers.of(x);
            x.change(0, 1, new int[] {0, 4, 5, 6}[n], 7);
        }
        Check.due("size(3)", x.size(3), 20);
        for (int n = 3; n >= 0; n--) {
            Check.refused(x, "undo()", x.undo() ? 1 : 0, 1, 0);
            Check.due("all answers are as ahead of change " + n, Answers.of(x).equals(before[n]), true);
        }
        Check.refused(x, "undo() of none", x.undo() ? 1 : 0, 0, 6);
        Check.due("size(3)", x.size(3), 16);
        BiscuitLess none = new BiscuitLess();
        Check.refused(none, "undo() of no LAND", none.undo() ? 1 : 0, 0, 6);
    }

    private static void undoBehindALand() {
        Check.part("28: a LAND's changes, told or changed, are its own");
        BiscuitLess x = Check.landOf(Check.LEAST);
        x.change(0, 1, 0, 5);
        Check.due("land()", Check.tell(x, Check.LEAST), 1);
        Check.refused(x, "undo() in a new LAND", x.undo() ? 1 : 0, 0, 6);
        Check.due("PRICE", x.thing(0, 1, 2), 1);
        x.change(0, 1, 0, 5);
        Check.due("a refused change", x.change(0, 1, 0, 0), NO);
        Check.refused(x, "land(0)", x.land(0), NO, 4);
        Check.refused(x, "land(1)", x.land(1), NO, 2);
        Check.refused(x, "undo() behind refused calls", x.undo() ? 1 : 0, 1, 0);
        Check.due("PRICE", x.thing(0, 1, 2), 1);
    }
}
