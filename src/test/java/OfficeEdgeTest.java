/** The edges of Terms III up to SHORT, and of promises 12 to 21: what isn't there, nothing to go by, the most, ties. */
public final class OfficeEdgeTest {
    private static final int NO = BiscuitLess.NONE;

    private OfficeEdgeTest() {
    }

    public static void main(String[] args) {
        millionAtMost();
        goesOnFromTheMost();
        seenPriceDownwards();
        countsOfAllHouses();
        carriesTheLastOne();
        nearestInSize();
        nearBySizeThen();
        nearToItsLastSize();
        nearWithNoneThere();
        dropsOnBothSides();
        nothingToGoBy();
        nothingAtFirst();
        chainsComeBackOrNot();
        besideAndDriftOfMinusOne();
        backWhateverIsNotThere();
        hasSame();
        hasSeen();
        hasNeverBelow();
        insteadOfWhatIsNotThere();
        insteadByNothing();
        pensionDownwards();
        shortMonthByMonth();
        nearestOffice();
        Check.end();
    }

    /** One thing that costs so much at first and so much in month 1; two offices, fixed and chained. */
    private static BiscuitLess priced(int first, int then) {
        String change = then > first ? "dearer " + (then - first) : "cheaper " + (first - then);
        return Check.landOf("months 3;group a;thing x of a size 10 stuff 10 price " + first + ";change x month 1 " + change
            + ";house h notices 0 pension 999 wants a 1;office f carry piece fixed;office c carry piece chained");
    }

    private static void millionAtMost() {
        Check.part("III: NUMBER, LIVE and INSTEAD are 1,000,000 at most; downwards");
        int[][] due = {{10, 999, 999000}, {5, 499, 998000}, {5, 500, 1000000}, {5, 501, 1000000}, {1, 99, 990000},
            {1, 100, 1000000}, {1, 101, 1000000}, {1, 999, 1000000}, {9, 899, 998888}, {3, 10, 33333}, {999, 1, 10},
            {7, 10, 14285}, {11, 10, 9090}};
        for (int[] row : due) {
            BiscuitLess x = priced(row[0], row[1]);
            String what = " of " + row[0] + " and " + row[1];
            Check.due("NUMBER by fixed" + what, x.number(0, 1), row[2]);
            Check.due("NUMBER by chained" + what, x.number(1, 1), row[2]);
            Check.due("LIVE" + what, x.live(0, 1), row[2]);
            Check.due("INSTEAD 0" + what, x.instead(0, 1, 0), row[2]);
            Check.due("INSTEAD 1" + what, x.instead(0, 1, 1), row[2]);
            Check.due("BESIDE" + what, x.beside(0, 0, 1), 0);
            Check.due("PENSION" + what, x.pension(0, 0, 1), 999L * row[2] / 10000);
        }
    }

    private static void goesOnFromTheMost() {
        Check.part("III: by chained: that of the MONTH ahead, which is 1,000,000 at most");
        BiscuitLess x = priced(1, 200);
        x.change(0, 2, 1, 100);
        Check.row("NUMBER by fixed", m -> x.number(0, m), 10000, 1000000, 1000000, NO);
        Check.row("NUMBER by chained", m -> x.number(1, m), 10000, 1000000, 500000, NO);
    }

    private static void seenPriceDownwards() {
        Check.part("III: SEEN PRICE: of weight PRICE times 1,000 by SIZE, downwards");
        BiscuitLess x = Check.landOf("months 3;group a;thing x of a size 30 stuff 10 price 7;change x month 1 dearer 1;"
            + "change x month 2 smaller 1;house h notices 99 pension 0 wants a 1;office w carry weight fixed;"
            + "office c carry weight chained");
        // 7000 / 30 = 233, 8000 / 30 = 266, 8000 / 29 = 275, thirty of each.
        Check.row("GIVES by fixed", m -> x.gives(0, 0, m), 6990, 7980, 8250);
        Check.row("GIVES by chained", m -> x.gives(1, 0, m), 6990, 7980, 8250);
        Check.row("NUMBER", m -> x.number(0, m), 10000, 11416, 11802);
        BiscuitLess much = Check.landOf("months 2;group a;thing x of a size 10 stuff 10 price 999;"
            + "house h notices 0 pension 0 wants a 99;house i notices 0 pension 0 wants a 99;"
            + "house j notices 0 pension 0 wants a 99;office w carry weight fixed");
        Check.due("GIVES of 297 pieces of 10 at 99,900", much.gives(0, 0, 0), 296703000L);
        BiscuitLess little = Check.landOf("months 2;group a;thing x of a size 999 stuff 10 price 1;"
            + "house h notices 0 pension 0 wants a 1;office w carry weight fixed");
        Check.due("GIVES of a piece of 999 at 1", little.gives(0, 0, 0), 999);
    }

    private static void countsOfAllHouses() {
        Check.part("III: all pieces that all HOUSES buy of it; by weight: times SIZE");
        BiscuitLess x = Check.landOf("months 3;group a;thing x of a size 20 stuff 10 price 4;"
            + "thing y of a size 20 stuff 10 price 5;change x month 1 smaller 10;house h notices 99 pension 0 wants a 3;"
            + "house i notices 0 pension 0 wants a 4;house j notices 99 pension 0 wants a 1;office f carry piece fixed;"
            + "office c carry piece chained;office w carry weight chained");
        // In month 0 two, two and one of x; from month 1 on i looks anew and has two of y.
        Check.row("x by piece, fixed", m -> x.gives(0, 0, m), 20, 20, 20);
        Check.row("y by piece, fixed", m -> x.gives(0, 1, m), 0, 0, 0);
        Check.row("x by piece, chained", m -> x.gives(1, 0, m), 20, 20, 12);
        Check.row("y by piece, chained", m -> x.gives(1, 1, m), 0, 0, 10);
        Check.row("x by weight: 5 of 20, then 3 of 10", m -> x.gives(2, 0, m), 20000, 40000, 12000);
        Check.row("y by weight", m -> x.gives(2, 1, m), 0, 0, 10000);
    }

    private static void carriesTheLastOne() {
        Check.part("III: carry: its SEEN PRICE in the last MONTH in which it was");
        BiscuitLess x = Check.landOf("months 4;group a;thing x of a size 40 stuff 10 price 10;change x month 1 smaller 20;"
            + "change x month 1 dearer 2;change x month 2 gone;change x month 2 smaller 10;change x month 3 dearer 100;"
            + "house h notices 99 pension 0 wants a 1;office w carry weight fixed;office p carry piece fixed");
        Check.row("by weight", m -> x.gives(0, 0, m), 10000, 24000, 24000, 24000);
        Check.row("by piece", m -> x.gives(1, 0, m), 10, 12, 12, 12);
        Check.row("NUMBER", m -> x.number(0, m), 10000, 24000, 24000, 24000);
    }

    /** Things of these sizes, each as dear as it is large, and then x of size 40, for 5, that goes. */
    private static void nearest(int due, int... sizes) {
        StringBuilder text = new StringBuilder("months 2;group a;group b;thing o of b size 40 stuff 10 price 9");
        StringBuilder shown = new StringBuilder();
        for (int i = 0; i < sizes.length; i++) {
            text.append(";thing ").append((char) ('p' + i)).append(" of a size ").append(sizes[i]).append(" stuff 10 price ")
                .append(sizes[i]);
            shown.append(' ').append(sizes[i]);
        }
        BiscuitLess x = Check.landOf(text + ";thing x of a size 40 stuff 10 price 5;change x month 1 gone;"
            + "house h notices 0 pension 0 wants a 1;office n near piece fixed;office w near weight fixed");
        Check.due("PRICE of the nearest of" + shown, x.gives(0, sizes.length + 1, 1), due);
        Check.due("NUMBER by it", x.number(0, 1), due * 2000);
        Check.due("what it counts for by weight", x.gives(1, sizes.length + 1, 1), 40000);
    }

    private static void nearestInSize() {
        Check.part("III: near: whose SIZE is nearest, the first such");
        nearest(50, 20, 50, 60);
        nearest(50, 60, 50, 20);
        nearest(50, 50, 20, 60);
        nearest(50, 50, 60, 70, 55, 80, 90);
        nearest(30, 10, 20, 30, 11, 21);
        nearest(30, 30, 50);
        nearest(50, 50, 30);
        nearest(40, 39, 40, 41);
        nearest(39, 39, 41);
        nearest(41, 41, 39);
        nearest(10, 10, 500);
        nearest(69, 10, 69);
        nearest(10, 10, 70);
        nearest(70, 70, 10);
        nearest(10, 71, 10);
        nearest(40, 40, 40);
    }

    private static void nearBySizeThen() {
        Check.part("III: near: that of the THING that is THERE whose SIZE (then) is nearest");
        BiscuitLess x = Check.landOf("months 5;group a;thing p of a size 45 stuff 10 price 20;"
            + "thing q of a size 30 stuff 10 price 30;thing x of a size 40 stuff 10 price 10;change x month 1 gone;"
            + "change p month 2 smaller 20;change q month 3 dearer 5;change q month 4 gone;"
            + "house h notices 0 pension 0 wants a 1;office n near piece fixed;office w near weight fixed");
        Check.row("p, then q, q dearer, p again", m -> x.gives(0, 2, m), 10, 20, 30, 35, 20);
        Check.row("by weight", m -> x.gives(1, 2, m), 10000, 40 * 444, 40000, 40 * 1166, 32000);
    }

    private static void nearToItsLastSize() {
        Check.part("III: near: nearest to its last one");
        BiscuitLess x = Check.landOf("months 4;group a;thing p of a size 40 stuff 10 price 20;"
            + "thing q of a size 30 stuff 10 price 30;thing r of a size 10 stuff 10 price 40;"
            + "thing x of a size 40 stuff 10 price 10;change x month 1 smaller 10;change x month 2 gone;"
            + "change x month 2 smaller 20;house h notices 99 pension 0 wants a 1;office n near piece fixed");
        Check.row("x, x, q, q", m -> x.gives(0, 3, m), 10, 10, 30, 30);
    }

    private static void nearWithNoneThere() {
        Check.part("III: near: with none THERE: as carry");
        BiscuitLess x = Check.landOf("months 4;group a;group b;thing z of b size 10 stuff 10 price 7;"
            + "thing x of a size 10 stuff 10 price 2;thing y of a size 10 stuff 10 price 3;change x month 1 dearer 2;"
            + "change x month 2 gone;change y month 3 gone;change x month 3 dearer 90;change y month 3 dearer 90;"
            + "house h notices 99 pension 0 wants a 1;office n near piece fixed;office c near piece chained");
        // The house notices x (from 2 to 4) and has y from month 1 on.
        Check.row("x by fixed", m -> x.gives(0, 1, m), 2, 4, 3, 4);
        Check.row("y by chained", m -> x.gives(1, 2, m), 0, 0, 3, 3);
        Check.row("NUMBER by fixed", m -> x.number(0, m), 10000, 20000, 15000, 20000);
        Check.row("NUMBER by chained", m -> x.number(1, m), 10000, 20000, 20000, 20000);
    }

    private static void dropsOnBothSides() {
        Check.part("III: drop: it is left out, in the LIST's own MONTH, too");
        BiscuitLess x = Check.landOf("months 4;group a;group b;thing x of a size 10 stuff 10 price 10;"
            + "thing y of b size 10 stuff 10 price 30;change y month 1 dearer 6;change x month 2 gone;"
            + "house h notices 99 pension 0 wants a 1,b 1;office d drop piece fixed;office c drop piece chained;"
            + "office k carry piece fixed");
        Check.row("NUMBER by drop", m -> x.number(0, m), 10000, 11500, 12000, 12000);
        Check.row("NUMBER by drop, chained", m -> x.number(1, m), 10000, 11500, 11500, 11500);
        Check.row("NUMBER by carry", m -> x.number(2, m), 10000, 11500, 11500, 11500);
        Check.row("GIVES of what is left out", m -> x.gives(0, 0, m), 10, 10, 0, 0);
        Check.row("GIVES of the other", m -> x.gives(0, 1, m), 30, 36, 36, 36);
    }

    private static void nothingToGoBy() {
        Check.part("III: with a sum of 0 to go by: as the MONTH ahead; fixed: 10,000");
        String land = "months 4;group a;thing x of a size 10 stuff 10 price 10;change x month 1 dearer 10;"
            + "change x month 2 gone;house h notices 0 pension 0 wants a 1;";
        for (String sees : new String[] {"piece", "weight"}) {
            BiscuitLess x = Check.landOf(land + "office f drop " + sees + " fixed;office c drop " + sees + " chained;"
                + "office k carry " + sees + " chained");
            Check.row("drop, fixed", m -> x.number(0, m), 10000, 20000, 10000, 10000);
            Check.row("drop, chained", m -> x.number(1, m), 10000, 20000, 20000, 20000);
            Check.row("carry, chained", m -> x.number(2, m), 10000, 20000, 20000, 20000);
            BiscuitLess y = Check.landOf(land + "office f near " + sees + " fixed;office c near " + sees + " chained;"
                + "office k carry " + sees + " fixed");
            Check.row("near, fixed", m -> y.number(0, m), 10000, 20000, 20000, 20000);
            Check.row("near, chained", m -> y.number(1, m), 10000, 20000, 20000, 20000);
            Check.row("carry, fixed", m -> y.number(2, m), 10000, 20000, 20000, 20000);
        }
    }

    private static void nothingAtFirst() {
        Check.part("III: a LIST of a MONTH in which nothing is bought");
        BiscuitLess x = Check.landOf("months 4;group a;thing x of a size 10 stuff 10 price 10;change x month 1 come;"
            + "change x month 2 dearer 10;change x month 3 dearer 20;house h notices 0 pension 0 wants a 1;"
            + "office f carry piece fixed;office c carry piece chained");
        Check.row("NUMBER by fixed", m -> x.number(0, m), 10000, 10000, 10000, 10000);
        Check.row("NUMBER by chained", m -> x.number(1, m), 10000, 10000, 20000, 40000);
        Check.row("GIVES by fixed", m -> x.gives(0, 0, m), 0, 0, 0, 0);
        Check.row("GIVES by chained", m -> x.gives(1, 0, m), 0, 0, 20, 40);
        Check.row("HAS of fixed", what -> x.has(0, what), 1, 1, 1, NO);
        Check.row("HAS of chained", what -> x.has(1, what), 1, 1, 1, NO);
    }

    /** From 7 to 10 and back: a chain that is taken downwards twice comes back to 9,999. */
    private static BiscuitLess sevenTenSeven(int pension) {
        return Check.landOf("months 3;group a;thing x of a size 10 stuff 10 price 7;change x month 1 dearer 3;"
            + "change x month 2 cheaper 3;house h notices 0 pension " + pension + " wants a 1;"
            + "office c carry piece chained;office f carry piece fixed");
    }

    private static void chainsComeBackOrNot() {
        Check.part("III: BACK, DRIFT, HAS same; by chained: downwards each MONTH");
        BiscuitLess x = sevenTenSeven(0);
        Check.row("BACK", x::back, 1, 0, 1, NO);
        Check.row("NUMBER by chained", m -> x.number(0, m), 10000, 14285, 9999);
        Check.row("NUMBER by fixed", m -> x.number(1, m), 10000, 14285, 10000);
        Check.row("HAS of chained", what -> x.has(0, what), 0, 1, 0, NO);
        Check.row("HAS of fixed", what -> x.has(1, what), 1, 1, 1, NO);
        BiscuitLess even = Check.landOf("months 3;group a;thing x of a size 10 stuff 10 price 5;change x month 1 dearer 5;"
            + "change x month 2 cheaper 5;house h notices 0 pension 0 wants a 1;office c carry piece chained");
        Check.row("a chain that comes back", m -> even.number(0, m), 10000, 20000, 10000);
        Check.row("its HAS", what -> even.has(0, what), 1, 1, 1, NO);
    }

    private static void besideAndDriftOfMinusOne() {
        Check.part("14 and 16: -1 is an answer, -1,000,000,000 a refusal");
        BiscuitLess x = sevenTenSeven(0);
        Check.refused(x, "drift(0, 2)", x.drift(0, 2), -1, 0);
        Check.refused(x, "beside(0, 0, 2)", x.beside(0, 0, 2), -1, 0);
        Check.refused(x, "drift(0, 1)", x.drift(0, 1), Check.NO_DIFFERENCE, 5);
        Check.refused(x, "drift(0, 3)", x.drift(0, 3), Check.NO_DIFFERENCE, 1);
        Check.refused(x, "drift(2, 1)", x.drift(2, 1), Check.NO_DIFFERENCE, 1);
        Check.refused(x, "beside(0, 0, 3)", x.beside(0, 0, 3), Check.NO_DIFFERENCE, 1);
        Check.refused(x, "drift(0, 0)", x.drift(0, 0), 0, 0);
        // As far off as can be: a number of 1,000,000 in a month with nothing to live on, and the other way round.
        BiscuitLess far = priced(1, 999);
        far.change(0, 2, 5, 0);
        Check.due("most BESIDE", far.beside(0, 0, 2), 1000000);
        BiscuitLess below = Check.landOf("months 2;group a;thing x of a size 10 stuff 10 price 1;"
            + "change x month 1 dearer 998;house h notices 0 pension 0 wants a 1;office d drop piece fixed;group b;"
            + "thing y of b size 10 stuff 10 price 999;change y month 1 cheaper 999;house i notices 0 pension 0 wants b 99");
        Check.due("NUMBER (999 + 99) of (1 + 98901)", below.number(0, 1), 111);
        Check.due("BESIDE", below.beside(0, 0, 1), 111 - 1000000);
    }

    private static void backWhateverIsNotThere() {
        Check.part("III: BACK: THERE or not; those THERE with SIZE, STUFF, PRICE");
        BiscuitLess x = Check.landOf("months 6;group a;thing x of a size 20 stuff 20 price 20;"
            + "thing y of a size 20 stuff 20 price 20;change y month 4 come;change y month 1 dearer 1;"
            + "change y month 1 smaller 1;change y month 1 better 1;change y month 5 gone;"
            + "house h notices 0 pension 0 wants a 1;office o carry piece fixed");
        Check.row("BACK", x::back, 1, 1, 1, 1, 0, 1, NO);
        x.change(0, 2, 3, 1);
        Check.row("BACK, x thinner from MONTH 2 on", x::back, 1, 1, 0, 0, 0, 0, NO);
        x.change(0, 3, 4, 1);
        Check.row("BACK, x better again", x::back, 1, 1, 0, 1, 0, 1, NO);
        x.change(0, 3, 5, 0);
        Check.row("BACK, x gone from MONTH 3 on", x::back, 1, 1, 0, 0, 0, 0, NO);
        BiscuitLess two = Check.landOf(Check.LEAST.replace("months 2", "months 3")
            + ";thing y of a size 10 stuff 10 price 1;change x month 1 gone");
        Check.row("BACK, gone in MONTH 1", two::back, 1, 0, 0, NO);
        two.change(0, 2, 6, 0);
        Check.row("BACK, not THERE till MONTH 2", two::back, 1, 1, 0, NO);
        two.change(0, 1, 6, 0);
        Check.row("BACK, come in MONTH 1", two::back, 1, 0, 0, NO);
    }

    private static void hasSame() {
        Check.part("III: HAS same: in all MONTHS that are BACK");
        BiscuitLess x = Check.landOf("months 3;group a;thing x of a size 10 stuff 10 price 10;change x month 1 dearer 5;"
            + "house h notices 0 pension 0 wants a 1;office f carry piece fixed");
        Check.row("BACK", x::back, 1, 0, 0);
        Check.row("NUMBER", m -> x.number(0, m), 10000, 15000, 15000);
        Check.due("HAS same, though NUMBER is another in MONTHS that aren't BACK", x.has(0, 0), 1);
        BiscuitLess late = sevenTenSeven(0);
        late.change(0, 1, 1, 3);
        Check.row("BACK", late::back, 1, 1, 0);
        Check.due("HAS same, BACK in MONTH 1", late.has(0, 0), 1);
    }

    private static void hasSeen() {
        Check.part("III: HAS seen: in no MONTH a THING of a LIST it sums isn't THERE");
        String land = "months 3;group a;thing x of a size 10 stuff 10 price 1;thing y of a size 10 stuff 10 price 2;"
            + "house h notices 0 pension 0 wants a 1;office f drop piece fixed;office c near weight chained";
        int[][] due = {{1, 1}, {0, 0}, {0, 0}, {1, 1}, {0, 1}, {1, 1}};
        String[] changes = {"", ";change x month 2 gone", ";change x month 1 gone", ";change y month 1 gone",
            ";change x month 1 dearer 5;change x month 2 gone", ";change x month 2 come;change x month 2 gone"};
        for (int i = 0; i < changes.length; i++) {
            BiscuitLess x = Check.landOf(land + changes[i]);
            Check.due("fixed" + changes[i], x.has(0, 1), due[i][0]);
            Check.due("chained" + changes[i], x.has(1, 1), due[i][1]);
        }
    }

    private static void hasNeverBelow() {
        Check.part("III: HAS never below: in each MONTH no less than LIVE of each HOUSE");
        String land = "months 12;group a;group b;thing x of a size 10 stuff 10 price 10;thing y of b size 10 stuff 10 price 10;"
            + "house h notices 0 pension 0 wants a 1;house i notices 0 pension 0 wants a 1,b 1;"
            + "house j notices 0 pension 0 wants b 1;office f carry piece fixed";
        String[] changes = {"", ";change x month 1 dearer 1", ";change y month 11 dearer 1",
            ";change x month 11 dearer 1;change y month 11 dearer 1", ";change x month 11 thinner 1",
            ";change x month 1 cheaper 5;change y month 1 cheaper 5"};
        int[] due = {1, 0, 0, 1, 1, 1};
        for (int i = 0; i < changes.length; i++) {
            Check.due("never below" + changes[i], Check.landOf(land + changes[i]).has(0, 2), due[i]);
        }
    }

    private static void insteadOfWhatIsNotThere() {
        Check.part("III: INSTEAD: of what isn't THERE by the last one; of what wasn't THERE by its LINE");
        BiscuitLess x = Check.landOf("months 4;group a;group b;thing x of a size 10 stuff 10 price 10;"
            + "thing y of b size 10 stuff 10 price 10;thing z of a size 10 stuff 10 price 2;change x month 1 dearer 2;"
            + "change x month 2 gone;change x month 2 dearer 50;change y month 2 dearer 10;change z month 1 dearer 4;"
            + "change z month 2 come;change z month 3 cheaper 1;house h notices 99 pension 0 wants a 1,b 1;"
            + "office o carry piece fixed");
        Check.row("what it bought in MONTH 0", m -> x.instead(0, m, 0), 10000, 11000, 16000, 16000);
        // In months 2 and 3 it buys y (20, was 10) and z (6 and 5, by its line 2).
        Check.row("what it buys then", m -> x.instead(0, m, 1), 10000, 11000, 21666, 20833);
    }

    private static void insteadByNothing() {
        Check.part("III: INSTEAD: 10,000 by 0");
        BiscuitLess late = Check.landOf(Check.LEAST + ";change x month 1 come;change x month 1 dearer 4");
        Check.row("nothing in MONTH 0, side 0", m -> late.instead(0, m, 0), 10000, 10000);
        Check.row("nothing in MONTH 0, side 1", m -> late.instead(0, m, 1), 10000, 50000);
        BiscuitLess gone = Check.landOf(Check.LEAST + ";change x month 1 gone;change x month 1 dearer 4");
        Check.row("nothing in MONTH 1, side 0", m -> gone.instead(0, m, 0), 10000, 10000);
        Check.row("nothing in MONTH 1, side 1", m -> gone.instead(0, m, 1), 10000, 10000);
    }

    private static void pensionDownwards() {
        Check.part("III: PENSION: pension times NUMBER by 10,000, downwards");
        Check.row("of 0", m -> sevenTenSeven(0).pension(0, 0, m), 0, 0, 0, NO);
        Check.row("of 1", m -> sevenTenSeven(1).pension(0, 0, m), 1, 1, 0, NO);
        Check.row("of 7", m -> sevenTenSeven(7).pension(0, 0, m), 7, 9, 6, NO);
        Check.row("of 999", m -> sevenTenSeven(999).pension(0, 0, m), 999, 1427, 998, NO);
        Check.row("of 999 by fixed", m -> sevenTenSeven(999).pension(0, 1, m), 999, 1427, 999, NO);
        Check.row("the most", m -> priced(1, 999).pension(0, 0, m), 999, 99900, 99900, NO);
    }

    private static void shortMonthByMonth() {
        Check.part("III: SHORT: of MONTHS up to one, how much TRULY is above it, together");
        Check.row("of 6: 1, 2 and 2", m -> sevenTenSeven(6).lacks(0, 0, m), 1, 3, 5, NO);
        Check.row("of 7: 0, 1 and 1", m -> sevenTenSeven(7).lacks(0, 0, m), 0, 1, 2, NO);
        Check.row("of 8", m -> sevenTenSeven(8).lacks(0, 0, m), 0, 0, 0, NO);
        Check.row("of 0: 7, 10 and 7", m -> sevenTenSeven(0).lacks(0, 0, m), 7, 17, 24, NO);
        // What is left over in months 0 and 2 helps no other month: 10, 20, 10 by a pension of 12.
        BiscuitLess x = Check.landOf("months 3;group a;thing x of a size 100 stuff 100 price 10;change x month 1 thinner 50;"
            + "change x month 2 better 50;house h notices 99 pension 12 wants a 99;office o carry piece fixed");
        Check.row("TRULY", m -> x.truly(0, m), 10, 20, 10);
        Check.row("SHORT", m -> x.lacks(0, 0, m), 0, 8, 8, NO);
        // The most there may be: 99 pieces at 999 of four groups, for twelve months.
        BiscuitLess most = Check.landOf("months 12;group a;group b;group c;group d;thing p of a size 10 stuff 10 price 999;"
            + "thing q of b size 10 stuff 10 price 999;thing r of c size 10 stuff 10 price 999;"
            + "thing s of d size 10 stuff 10 price 999;house h notices 0 pension 0 wants a 99,b 99,c 99,d 99;"
            + "office o carry piece fixed");
        Check.due("SPENT", most.spent(0, 11), 395604);
        Check.due("SHORT", most.lacks(0, 0, 11), 4747248);
    }

    /** In month 1 a number by piece is 10,000 and one by weight 20,000; to live takes 20,000, or 15,000 with y. */
    private static BiscuitLess offices(String y, String... sees) {
        StringBuilder text = new StringBuilder("months 2;group a;thing x of a size 100 stuff 100 price 10;" + y
            + "change x month 1 smaller 50;house h notices 0 pension 0 wants a 99");
        for (int i = 0; i < sees.length; i++) {
            text.append(";office ").append((char) ('p' + i)).append(" carry ").append(sees[i]).append(" fixed");
        }
        return Check.landOf(text.toString());
    }

    private static void nearestOffice() {
        Check.part("21: the OFFICE whose NUMBER is nearest to LIVE, the first such");
        Check.row("one", m -> offices("", "piece").nearest(0, m), 0, 0, NO);
        Check.row("piece, weight", m -> offices("", "piece", "weight").nearest(0, m), 0, 1, NO);
        Check.row("weight, piece", m -> offices("", "weight", "piece").nearest(0, m), 0, 0, NO);
        Check.row("weight, piece, weight", m -> offices("", "weight", "piece", "weight").nearest(0, m), 0, 0, NO);
        Check.row("piece, piece, weight", m -> offices("", "piece", "piece", "weight").nearest(0, m), 0, 2, NO);
        Check.row("piece, weight, weight", m -> offices("", "piece", "weight", "weight").nearest(0, m), 0, 1, NO);
        String y = "thing y of a size 100 stuff 100 price 15;";
        BiscuitLess x = offices(y, "piece", "weight");
        Check.due("BESIDE of piece", x.beside(0, 0, 1), -5000);
        Check.due("BESIDE of weight", x.beside(1, 0, 1), 5000);
        Check.row("as far below as above", m -> x.nearest(0, m), 0, 0, NO);
        Check.row("as far above as below", m -> offices(y, "weight", "piece").nearest(0, m), 0, 0, NO);
    }
}
