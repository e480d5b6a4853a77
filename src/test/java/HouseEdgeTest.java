/** The edges of Terms II and of promises 6 to 11 and 29: bounds kept, THERE, PIECES, the BEST, what a house notices. */
public final class HouseEdgeTest {
    private static final int NO = BiscuitLess.NONE;
    private static final String REST = "house h notices 0 pension 0 wants a 1;office o carry piece fixed";

    private HouseEdgeTest() {
    }

    public static void main(String[] args) {
        months();
        keptWithinBounds();
        orderOfMonthsThenLines();
        changedOnesGoBehindTheirMonth();
        thereByGoneAndCome();
        thereInOtherOrders();
        piecesUpwards();
        bestIsTheLeastOfAll();
        bestIsTheFirstSuch();
        bestIsThere();
        noticesDearer();
        noticesSmaller();
        noticesNothingElse();
        noticesByTheMonthBefore();
        asManyPieces();
        anewWithoutTheOldOne();
        hadNone();
        missedGroupByGroup();
        trulyOfNone();
        liveByNothing();
        ledMonths();
        ledAlongWithChanges();
        Check.end();
    }

    private static void months() {
        Check.part("II: MONTHS 0, 1, .. (as many as months)");
        for (int months : new int[] {2, 3, 11, 12}) {
            BiscuitLess x = Check.landOf(Check.LEAST.replace("months 2", "months " + months));
            for (int m : new int[] {0, months - 1}) {
                Check.due("SIZE in MONTH " + m, x.thing(0, m, 0), 10);
                Check.refused(x, "NUMBER in MONTH " + m, x.number(0, m), 10000, 0);
                Check.refused(x, "SPENT in MONTH " + m, x.spent(0, m), 1, 0);
            }
            for (int m : new int[] {-1, months, Integer.MIN_VALUE, Integer.MAX_VALUE}) {
                Check.due("SIZE in MONTH " + m, x.thing(0, m, 0), NO);
                Check.refused(x, "NUMBER in MONTH " + m, x.number(0, m), NO, 1);
                Check.refused(x, "SPENT in MONTH " + m, x.spent(0, m), NO, 1);
            }
        }
    }

    private static void keptWithinBounds() {
        Check.part("II: each kept within the bounds of its LINE");
        BiscuitLess x = Check.landOf("months 8;group a;thing x of a size 20 stuff 190 price 990;"
            + "change x month 1 dearer 9;change x month 2 dearer 1;change x month 3 cheaper 1;"
            + "change x month 4 cheaper 997;change x month 5 cheaper 1;change x month 6 dearer 1;"
            + "change x month 1 better 10;change x month 2 better 1;change x month 3 thinner 1;"
            + "change x month 4 thinner 189;change x month 5 thinner 1;change x month 6 better 1;"
            + "change x month 1 smaller 9;change x month 2 smaller 1;change x month 3 smaller 1;"
            + "change x month 4 smaller 999;" + REST);
        Check.row("SIZE", m -> x.thing(0, m, 0), 20, 11, 10, 10, 10, 10, 10, 10, NO);
        Check.row("STUFF", m -> x.thing(0, m, 1), 190, 200, 200, 199, 10, 10, 11, 11, NO);
        Check.row("PRICE", m -> x.thing(0, m, 2), 990, 999, 999, 998, 1, 1, 2, 2, NO);
    }

    private static void orderOfMonthsThenLines() {
        Check.part("II: in the order of MONTHS, then LINES");
        String thing = "months 4;group a;thing x of a size 10 stuff 10 price 990;";
        BiscuitLess x = Check.landOf(thing + "change x month 2 dearer 50;change x month 1 cheaper 100;"
            + "change x month 2 cheaper 5;" + REST);
        Check.row("PRICE", m -> x.thing(0, m, 2), 990, 890, 935, 935);
        BiscuitLess up = Check.landOf(thing + "change x month 2 dearer 50;change x month 2 cheaper 5;" + REST);
        Check.row("PRICE, up and down", m -> up.thing(0, m, 2), 990, 990, 994, 994);
        BiscuitLess down = Check.landOf(thing + "change x month 2 cheaper 5;change x month 2 dearer 50;" + REST);
        Check.row("PRICE, down and up", m -> down.thing(0, m, 2), 990, 990, 999, 999);
    }

    private static void changedOnesGoBehindTheirMonth() {
        Check.part("II and 27: what change() tells goes behind the LINES of its MONTH, ahead of later MONTHS");
        BiscuitLess x = Check.landOf("months 4;group a;thing x of a size 10 stuff 10 price 990;"
            + "change x month 2 dearer 50;" + REST);
        x.change(0, 2, 1, 100);
        Check.row("PRICE", m -> x.thing(0, m, 2), 990, 990, 899, 899);
        x.change(0, 1, 1, 100);
        Check.row("PRICE", m -> x.thing(0, m, 2), 990, 890, 840, 840);
        x.change(0, 3, 0, 999);
        Check.row("PRICE", m -> x.thing(0, m, 2), 990, 890, 840, 999);
        x.undo();
        x.undo();
        Check.row("PRICE", m -> x.thing(0, m, 2), 990, 990, 899, 899);
    }

    private static void there(BiscuitLess x, String... months) {
        for (int t = 0; t < months.length; t++) {
            for (int m = 0; m < months[t].length(); m++) {
                Check.due("THERE of " + t + " in MONTH " + m, x.thing(t, m, 3), months[t].charAt(m) - '0');
            }
        }
    }

    private static void thereByGoneAndCome() {
        Check.part("II: THERE from the beginning, but if it has a come from the first such MONTH on; behind gone it isn't");
        StringBuilder text = new StringBuilder("months 6;group a");
        for (char name = 's'; name <= 'z'; name++) {
            text.append(";thing ").append(name).append(" of a size 10 stuff 10 price 1");
        }
        String[] changes = {"t 2 gone", "u 2 come", "v 2 come", "v 4 gone", "w 1 gone", "w 3 come", "x 1 come", "x 2 gone",
            "x 4 come", "y 3 gone", "y 3 come", "z 3 come", "z 3 gone"};
        for (String change : changes) {
            String[] parts = change.split(" ");
            text.append(";change ").append(parts[0]).append(" month ").append(parts[1]).append(' ').append(parts[2]);
        }
        there(Check.landOf(text + ";" + REST), "111111", "110000", "001111", "001100", "000111", "010011", "000111",
            "000000");
    }

    private static void thereInOtherOrders() {
        Check.part("II: the first such MONTH; a later come; MONTHS beyond the LAND's");
        String things = "months 4;group a;thing x of a size 10 stuff 10 price 1;thing y of a size 10 stuff 10 price 1;" + REST;
        there(Check.landOf(things + ";change x month 3 come;change x month 1 come"), "0111", "1111");
        there(Check.landOf(things + ";change x month 3 gone;change x month 1 come"), "0110", "1111");
        there(Check.landOf(things + ";change x month 1 come;change x month 2 come"), "0111", "1111");
        there(Check.landOf(things + ";change x month 1 gone;change x month 2 gone;change x month 3 come"), "0001", "1111");
        there(Check.landOf(things + ";change x month 4 come;change y month 4 gone"), "0000", "1111");
        there(Check.landOf(things + ";change x month 11 come;change y month 11 gone"), "0000", "1111");
        BiscuitLess x = Check.landOf(things + ";change x month 2 gone");
        there(x, "1100", "1111");
        x.change(0, 3, 6, 0);
        there(x, "0001", "1111");
        x.change(0, 1, 6, 0);
        there(x, "0101", "1111");
        x.undo();
        x.undo();
        there(x, "1100", "1111");
        Check.due("SIZE as if THERE", x.thing(0, 3, 0), 10);
        Check.due("STUFF as if THERE", x.thing(0, 3, 1), 10);
        Check.due("PRICE as if THERE", x.thing(0, 3, 2), 1);
        Check.due("GROUP as if THERE", x.thing(0, 3, 4), 0);
    }

    private static void piecesUpwards() {
        Check.part("II: PIECES: want times 100 by WORTH, upwards");
        int[][] due = {{10, 10, 1, 1}, {10, 10, 2, 2}, {10, 19, 2, 2}, {10, 20, 2, 1}, {11, 19, 2, 1}, {10, 10, 99, 99},
            {10, 11, 99, 90}, {10, 12, 99, 83}, {999, 200, 99, 1}, {999, 200, 1, 1}, {99, 100, 99, 1}, {89, 111, 99, 2},
            {90, 110, 99, 1}, {33, 100, 99, 3}, {33, 99, 99, 4}};
        for (int[] row : due) {
            BiscuitLess x = Check.landOf("months 2;group a;thing x of a size " + row[0] + " stuff " + row[1] + " price 1;"
                + "house h notices 0 pension 0 wants a " + row[2] + ";office o carry piece fixed");
            Check.due(row[2] + " by " + row[0] + " times " + row[1], x.buys(0, 0, 0, 1), row[3]);
        }
    }

    private static BiscuitLess bests(String things, int want) {
        return Check.landOf("months 2;group a;group b;" + things + ";house h notices 0 pension 0 wants a " + want
            + ";office o carry piece fixed");
    }

    private static void buysAtFirst(BiscuitLess x, int thing, int pieces) {
        Check.due("the BEST", x.buys(0, 0, 0, 0), thing);
        Check.due("PIECES", x.buys(0, 0, 0, 1), pieces);
    }

    private static final String CHEAP = "thing x of a size 10 stuff 10 price 3";
    private static final String LARGE = "thing y of a size 10 stuff 30 price 7";

    private static void bestIsTheLeastOfAll() {
        Check.part("II: the BEST: of least PIECES times PRICE");
        buysAtFirst(bests(CHEAP + ";" + LARGE, 2), 0, 2);
        buysAtFirst(bests(CHEAP + ";" + LARGE, 3), 1, 1);
        buysAtFirst(bests(CHEAP + ";" + LARGE, 4), 0, 4);
        buysAtFirst(bests(CHEAP + ";" + LARGE, 5), 1, 2);
        buysAtFirst(bests("thing z of b size 10 stuff 10 price 1;" + CHEAP + ";" + LARGE, 5), 2, 2);
    }

    private static void bestIsTheFirstSuch() {
        Check.part("II: the BEST: the first such");
        buysAtFirst(bests(CHEAP + ";" + LARGE, 7), 0, 7);
        buysAtFirst(bests(LARGE + ";" + CHEAP, 7), 0, 3);
        buysAtFirst(bests("thing z of a size 10 stuff 10 price 4;" + CHEAP + ";" + LARGE, 7), 1, 7);
        buysAtFirst(bests(CHEAP + ";" + CHEAP.replace("x", "z") + ";" + LARGE, 1), 0, 1);
    }

    private static void bestIsThere() {
        Check.part("II: the BEST: THERE");
        buysAtFirst(bests(CHEAP + ";" + LARGE + ";change x month 1 come", 2), 1, 1);
        buysAtFirst(bests(CHEAP + ";" + LARGE + ";change y month 1 come", 3), 0, 3);
        buysAtFirst(bests(CHEAP + ";" + LARGE + ";change x month 1 come;change y month 1 come", 3), -2, 0);
        buysAtFirst(bests("thing z of b size 10 stuff 10 price 1", 3), -2, 0);
    }

    /** x is bought at first; y gets better than anything in month 1, if only the house looks anew. */
    private static void stays(int size, int price, int notices, String change, boolean due) {
        BiscuitLess x = Check.landOf("months 2;group a;thing y of a size " + size + " stuff 10 price 999;"
            + "thing x of a size " + size + " stuff 10 price " + price + ";change y month 1 cheaper 998;change x month 1 "
            + change + ";house h notices " + notices + " pension 0 wants a 1;office o carry piece fixed");
        Check.due("what it buys in MONTH 0", x.buys(0, 0, 0, 0), 1);
        String what = change + " of " + size + " for " + price + ", notices " + notices;
        Check.due("what it buys in MONTH 1, " + what, x.buys(0, 0, 1, 0), due ? 1 : 0);
    }

    private static void noticesDearer() {
        Check.part("II: PRICE is above that of the MONTH before by more than notices hundredths of that");
        int[][] most = {{100, 10, 10}, {33, 10, 3}, {199, 1, 1}, {200, 1, 2}, {100, 99, 99}, {500, 99, 495}, {300, 33, 99},
            {7, 50, 3}, {8, 50, 4}, {101, 99, 99}};
        for (int[] row : most) {
            stays(10, row[0], row[1], "dearer " + row[2], true);
            stays(10, row[0], row[1], "dearer " + (row[2] + 1), false);
            stays(10, row[0], row[1], "dearer 999", false);
        }
        stays(10, 500, 0, "dearer 1", false);
        stays(10, 1, 0, "dearer 1", false);
        stays(10, 1, 99, "dearer 1", false);
        stays(10, 998, 0, "dearer 1", false);
        stays(10, 505, 97, "dearer 999", false);
        stays(10, 505, 98, "dearer 999", true);
    }

    private static void noticesSmaller() {
        Check.part("II: or its SIZE below by more than notices hundredths");
        int[][] most = {{100, 10, 10}, {33, 10, 3}, {199, 1, 1}, {200, 1, 2}, {20, 45, 9}, {500, 97, 485}, {300, 33, 99},
            {21, 50, 10}};
        for (int[] row : most) {
            stays(row[0], 10, row[1], "smaller " + row[2], true);
            stays(row[0], 10, row[1], "smaller " + (row[2] + 1), false);
        }
        stays(500, 10, 0, "smaller 1", false);
        stays(11, 10, 0, "smaller 1", false);
        // From 999 to 10 it is 989, which is one less than 99 hundredths of 999 need.
        stays(999, 10, 99, "smaller 999", true);
        stays(999, 10, 98, "smaller 999", false);
        // At its bound it gets no smaller.
        stays(10, 10, 0, "smaller 999", true);
    }

    private static void noticesNothingElse() {
        Check.part("II: cheaper, thinner and better aren't noticed, nor two that are too little each");
        stays(20, 500, 0, "cheaper 400", true);
        stays(20, 500, 0, "thinner 999", true);
        stays(20, 500, 0, "better 999", true);
        stays(100, 100, 10, "dearer 10;change x month 1 smaller 10", true);
        stays(100, 100, 9, "dearer 10;change x month 1 smaller 9", false);
        stays(100, 100, 9, "dearer 9;change x month 1 smaller 10", false);
        stays(100, 100, 0, "dearer 10;change x month 1 cheaper 10", true);
    }

    private static void noticesByTheMonthBefore() {
        Check.part("II: above that of the MONTH before");
        String ahead = "months 5;group a;thing y of a size 10 stuff 10 price 999;thing x of a size 100 stuff 10 price 100;"
            + "change y month 1 cheaper 998;house h notices 10 pension 0 wants a 1;office o carry piece fixed";
        BiscuitLess creeps = Check.landOf(ahead + ";change x month 1 dearer 10;change x month 2 dearer 11;"
            + "change x month 3 dearer 12;change x month 4 dearer 14");
        Check.row("dearer", m -> creeps.buys(0, 0, m, 0), 1, 1, 1, 1, 0);
        BiscuitLess shrinks = Check.landOf(ahead + ";change x month 1 smaller 10;change x month 2 smaller 9;"
            + "change x month 3 smaller 8;change x month 4 smaller 8");
        Check.row("smaller", m -> shrinks.buys(0, 0, m, 0), 1, 1, 1, 1, 0);
        // As dear as at first, but twice as dear as the month before.
        BiscuitLess swings = Check.landOf(ahead + ";change x month 2 cheaper 50;change x month 4 dearer 50");
        Check.row("up again", m -> swings.buys(0, 0, m, 0), 1, 1, 1, 1, 0);
    }

    private static void asManyPieces() {
        Check.part("II: what it bought the MONTH before, as many pieces, but the BEST anew");
        String ahead = "months 4;group a;thing x of a size 100 stuff 100 price 10;house h notices 20 pension 0 wants a 99;"
            + "office o carry piece fixed";
        BiscuitLess thin = Check.landOf(ahead + ";change x month 1 thinner 50;change x month 2 smaller 20;"
            + "change x month 3 dearer 2");
        Check.row("pieces", m -> thin.buys(0, 0, m, 1), 1, 1, 1, 1);
        Check.row("SPENT", m -> thin.spent(0, m), 10, 10, 10, 12);
        Check.row("MISSED", m -> thin.missed(0, m), 0, 4900, 5900, 5900);
        Check.row("TRULY", m -> thin.truly(0, m), 10, 20, 30, 36);
        BiscuitLess small = Check.landOf(ahead + ";change x month 1 smaller 50;change x month 2 better 100;"
            + "change x month 3 dearer 3");
        Check.row("what it buys", m -> small.buys(0, 0, m, 0), 0, 0, 0, 0);
        Check.row("pieces, anew in MONTHS 1 and 3", m -> small.buys(0, 0, m, 1), 1, 2, 2, 1);
        Check.row("SPENT", m -> small.spent(0, m), 10, 20, 20, 13);
        Check.row("MISSED", m -> small.missed(0, m), 0, 0, 0, 0);
        Check.row("MONTHS led to another THING", i -> Check.led(small, 0, i), Check.THROWN);
    }

    private static void anewWithoutTheOldOne() {
        Check.part("II: the BEST anew, if that isn't THERE");
        BiscuitLess x = Check.landOf("months 5;group a;thing x of a size 10 stuff 10 price 1;"
            + "thing y of a size 10 stuff 10 price 3;thing z of a size 10 stuff 10 price 2;change y month 1 come;"
            + "change x month 2 gone;change z month 3 gone;change z month 4 come;change x month 1 come;"
            + "change z month 1 come;" + REST);
        Check.row("what it buys", m -> x.buys(0, 0, m, 0), -2, 0, 2, 1, 1);
        Check.row("SPENT", m -> x.spent(0, m), 0, 1, 2, 3, 3);
        Check.row("TRULY", m -> x.truly(0, m), 0, 1, 2, 3, 2);
    }

    private static void hadNone() {
        Check.part("II: or it had none; with none THERE it has none");
        BiscuitLess x = Check.landOf("months 6;group a;thing x of a size 20 stuff 20 price 5;change x month 1 come;"
            + "change x month 3 gone;change x month 3 thinner 10;change x month 3 dearer 1;change x month 5 come;"
            + "house h notices 99 pension 0 wants a 9;office o carry piece fixed");
        Check.row("what it buys", m -> x.buys(0, 0, m, 0), -2, 0, 0, -2, -2, 0);
        Check.row("pieces", m -> x.buys(0, 0, m, 1), 0, 3, 3, 0, 0, 5);
        Check.row("SPENT", m -> x.spent(0, m), 0, 15, 15, 0, 0, 30);
        Check.row("MISSED", m -> x.missed(0, m), 900, 0, 0, 900, 900, 0);
        Check.row("TRULY", m -> x.truly(0, m), 0, 15, 15, 0, 0, 30);
    }

    private static void missedGroupByGroup() {
        Check.part("II: MISSED: of all GROUPS; what one has too much is no other's");
        BiscuitLess x = Check.landOf("months 4;group a;group b;group c;thing x of a size 10 stuff 150 price 5;"
            + "thing y of b size 10 stuff 11 price 2;change y month 1 thinner 1;change y month 2 gone;change x month 3 gone;"
            + "house h notices 99 pension 0 wants a 1,b 11;house i notices 0 pension 0 wants c 99;"
            + "office o carry piece fixed");
        Check.row("pieces of b", m -> x.buys(0, 1, m, 1), 10, 10, 0, 0);
        Check.row("MISSED", m -> x.missed(0, m), 0, 100, 1100, 1200);
        Check.row("SPENT", m -> x.spent(0, m), 25, 25, 5, 0);
        Check.row("TRULY", m -> x.truly(0, m), 25, 27, 5, 0);
        Check.row("LIVE", m -> x.live(0, m), 10000, 10800, 2000, 0);
        Check.row("MISSED of what there never is", m -> x.missed(1, m), 9900, 9900, 9900, 9900);
    }

    private static void trulyOfNone() {
        Check.part("II: TRULY: of one with none THERE 0");
        BiscuitLess x = Check.landOf("months 3;group a;group b;thing x of a size 10 stuff 10 price 4;"
            + "thing y of b size 10 stuff 10 price 6;change y month 2 gone;change x month 1 gone;"
            + "house h notices 0 pension 0 wants a 1,b 2;office o carry piece fixed");
        Check.row("TRULY", m -> x.truly(0, m), 16, 12, 0);
        Check.row("LIVE", m -> x.live(0, m), 10000, 7500, 0);
    }

    private static void liveByNothing() {
        Check.part("III: LIVE: 10,000 if that is 0; downwards");
        BiscuitLess none = Check.landOf(Check.LEAST + ";change x month 1 come;change x month 1 dearer 998");
        Check.row("TRULY", m -> none.truly(0, m), 0, 999);
        Check.row("LIVE", m -> none.live(0, m), 10000, 10000);
        BiscuitLess thirds = Check.landOf(Check.LEAST.replace("price 1", "price 3") + ";change x month 1 dearer 2");
        Check.row("LIVE", m -> thirds.live(0, m), 10000, 16666);
        BiscuitLess least = Check.landOf(Check.LEAST.replace("price 1", "price 999") + ";change x month 1 cheaper 999");
        Check.row("LIVE", m -> least.live(0, m), 10000, 10);
    }

    private static void ledMonths() {
        Check.part("29: another THING of some GROUP than the MONTH ahead (or none, or had none)");
        BiscuitLess x = Check.landOf("months 12;group a;group b;thing x of a size 10 stuff 10 price 1;"
            + "thing y of a size 10 stuff 10 price 2;thing z of b size 100 stuff 100 price 5;change x month 1 dearer 5;"
            + "change z month 1 come;change z month 3 smaller 50;change z month 4 gone;change z month 6 come;"
            + "change y month 11 gone;house h notices 0 pension 0 wants a 1,b 99;house i notices 99 pension 0 wants b 99;"
            + "house j notices 0 pension 0 wants a 1;office o carry piece fixed");
        Check.row("pieces of z", m -> x.buys(0, 1, m, 1), 0, 1, 1, 2, 0, 0, 2);
        Check.row("led of both GROUPS", i -> Check.led(x, 0, i), 1, 4, 6, 11, Check.THROWN);
        Check.row("led of b", i -> Check.led(x, 1, i), 1, 4, 6, Check.THROWN);
        Check.row("led of a", i -> Check.led(x, 2, i), 1, 11, Check.THROWN);
        for (int wrong : new int[] {-1, Integer.MIN_VALUE, 12, Integer.MAX_VALUE}) {
            Check.due("led(0, " + wrong + ")", Check.led(x, 0, wrong), Check.THROWN);
        }
        for (int wrong : new int[] {-1, Integer.MIN_VALUE, 3, Integer.MAX_VALUE}) {
            Check.due("led(" + wrong + ", 0)", Check.led(x, wrong, 0), Check.THROWN);
        }
        Check.due("led of no LAND", Check.led(new BiscuitLess(), 0, 0), Check.THROWN);
    }

    private static void ledAlongWithChanges() {
        Check.part("29: NoSuchElementException if there is none such");
        BiscuitLess x = Check.landOf(Check.LEAST + ";thing y of a size 10 stuff 10 price 2");
        Check.row("led", i -> Check.led(x, 0, i), Check.THROWN);
        x.change(0, 1, 0, 1);
        Check.row("noticed, but still the first such", i -> Check.led(x, 0, i), Check.THROWN);
        x.change(0, 1, 0, 1);
        Check.row("led", i -> Check.led(x, 0, i), 1, Check.THROWN);
        x.undo();
        Check.row("led", i -> Check.led(x, 0, i), Check.THROWN);
        x.change(0, 1, 5, 0);
        Check.row("led", i -> Check.led(x, 0, i), 1, Check.THROWN);
    }
}
