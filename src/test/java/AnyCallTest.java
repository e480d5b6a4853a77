import java.util.NoSuchElementException;
import java.util.Random;

/** Any numbers in any state: no call may throw by itself, and only led may throw at all. */
public final class AnyCallTest {
    private static final int[] EDGES = {Integer.MIN_VALUE, Integer.MIN_VALUE + 1, -1000, -3, -2, -1, 0, 1, 2, 3, 4, 5,
        6, 7, 8, 9, 10, 11, 12, 13, 19, 20, 21, 98, 99, 100, 899, 900, 901, 998, 999, 1000, 1001, 65536,
        Integer.MAX_VALUE - 1, Integer.MAX_VALUE};
    private static final String FULL = "months 12;group a;group b;group c;group d;"
        + "thing p of a size 10 stuff 10 price 1;thing q of a size 999 stuff 200 price 999;"
        + "thing r of b size 10 stuff 10 price 999;thing s of b size 500 stuff 50 price 3;"
        + "thing t of c size 20 stuff 10 price 1;thing u of c size 30 stuff 11 price 2;"
        + "thing v of d size 10 stuff 10 price 1;change v month 1 dearer 999;"
        + "change p month 2 gone;change q month 3 gone;change p month 5 come;change s month 4 gone;"
        + "house h notices 0 pension 999 wants a 99,b 99,c 99,d 99;house i notices 99 pension 0 wants d 99;"
        + "house j notices 50 pension 1 wants b 1;"
        + "office e carry weight chained;office f near weight fixed;office g drop piece chained";

    private final Random random = new Random(7);
    private BiscuitLess x;

    private AnyCallTest() {
    }

    public static void main(String[] args) {
        new AnyCallTest().run();
        Check.end();
    }

    private void run() {
        for (int round = 0; round < 300; round++) {
            x = new BiscuitLess();
            if (round % 3 > 0) {
                Check.due("things of the full land", Check.tell(x, FULL), 7);
            }
            for (int calls = 0; calls < 450; calls++) {
                int which = random.nextInt(30);
                try {
                    call(which);
                } catch (NoSuchElementException e) {
                    Check.due("call " + which + " throws NoSuchElementException", which, 26);
                } catch (RuntimeException e) {
                    Check.due("call " + which + " throws " + e, 1, 0);
                }
            }
        }
    }

    private int any() {
        return random.nextInt(8) == 0 ? random.nextInt() : EDGES[random.nextInt(EDGES.length)];
    }

    private void call(int which) {
        int a = random.nextInt(3) == 0 ? any() : random.nextInt(8);
        int b = random.nextInt(3) == 0 ? any() : random.nextInt(12);
        int c = any();
        int d = any();
        switch (which) {
            case 0 -> x.feed(any(), a, b, c, d);
            case 1 -> x.land(random.nextInt(20) == 0 ? x.size(6) : a);
            case 2 -> x.thing(a, b, c);
            case 3 -> x.buys(a, c, b, d);
            case 4 -> x.spent(a, b);
            case 5 -> x.missed(a, b);
            case 6 -> x.truly(a, b);
            case 7 -> x.live(a, b);
            case 8 -> x.number(a, b);
            case 9 -> x.gives(c, a, b);
            case 10 -> x.beside(a, c, b);
            case 11 -> x.back(b);
            case 12 -> x.drift(a, b);
            case 13 -> x.has(a, c);
            case 14 -> x.instead(a, b, c);
            case 15 -> x.pension(a, c, b);
            case 16 -> x.lacks(a, c, b);
            case 17 -> x.nearest(a, b);
            case 18 -> x.worths(a, b, c);
            case 19 -> x.span(a, b, c, d, random.nextBoolean());
            case 20 -> x.hides(a, b, c, d);
            case 21 -> x.gain(a, b, c, d);
            case 22 -> x.look(a, b, c);
            case 23 -> x.change(a, b, random.nextInt(9) - 1, c);
            case 24 -> x.undo();
            case 25 -> x.where();
            case 26 -> x.led(a, c);
            case 27 -> x.size(c);
            case 28 -> x.trouble();
            default -> x.fault();
        }
    }
}
