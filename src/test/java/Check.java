import java.nio.charset.StandardCharsets;
import java.util.NoSuchElementException;
import java.util.function.IntToLongFunction;

/** What the tests share: counting wrong answers, and telling a land as a text. */
final class Check {
    static final int NO_DIFFERENCE = -1_000_000_000;

    /** What the tests write for an answer that is an exception of led. */
    static final int THROWN = -99;

    /** One thing, one house, one office: the least land there is. */
    static final String LEAST = "months 2;group a;thing x of a size 10 stuff 10 price 1;"
        + "house h notices 0 pension 0 wants a 1;office o carry piece fixed";

    private static int asked = 0;
    private static int wrong = 0;
    private static String part = "";

    private Check() {
    }

    static void part(String name) {
        part = name;
    }

    static void due(String what, long got, long want) {
        asked++;
        if (got != want) {
            wrong++;
            System.out.println(part + ": " + what + " answered " + got + ", due is " + want);
        }
    }

    static void due(String what, boolean got, boolean want) {
        due(what, got ? 1 : 0, want ? 1 : 0);
    }

    /** An answer, and what trouble() tells behind it. */
    static void refused(BiscuitLess x, String call, long got, long want, int trouble) {
        due(call, got, want);
        due("trouble() behind " + call, x.trouble(), trouble);
    }

    /** A text that is no land: its fault and the fault's place. */
    static void faulty(String text, int fault, int place) {
        BiscuitLess x = new BiscuitLess();
        String shown = "land of \"" + text + "\"";
        refused(x, shown, tell(x, text), BiscuitLess.NONE, 4);
        due("fault of " + shown, x.fault(), fault);
        due("place in " + shown, x.where(), place);
    }

    static long led(BiscuitLess x, int house, int i) {
        try {
            return x.led(house, i);
        } catch (NoSuchElementException e) {
            return THROWN;
        }
    }

    /** The answers of a call for the numbers 0, 1, 2, .. */
    static void row(String what, IntToLongFunction call, long... want) {
        for (int i = 0; i < want.length; i++) {
            due(what + " of " + i, call.applyAsLong(i), want[i]);
        }
    }

    /** The bytes of a text go on the tape, twenty at a time, blanks behind the last ones. */
    static void feed(BiscuitLess x, String text) {
        byte[] bytes = text.getBytes(StandardCharsets.ISO_8859_1);
        for (int at = 0; at < bytes.length; at += 20) {
            int[] five = new int[5];
            for (int i = 0; i < 20; i++) {
                int sign = at + i < bytes.length ? bytes[at + i] & 255 : 32;
                five[i / 4] = five[i / 4] << 8 | sign;
            }
            x.feed(five[0], five[1], five[2], five[3], five[4]);
        }
    }

    static int tell(BiscuitLess x, String text) {
        feed(x, text);
        return x.land(text.length());
    }

    static BiscuitLess landOf(String text) {
        BiscuitLess x = new BiscuitLess();
        int things = tell(x, text);
        if (things < 0) {
            due("land of \"" + text + "\" fault " + x.fault() + " at " + x.where(), things, 1);
        }
        return x;
    }

    static void end() {
        System.out.println(asked + " answers looked at, " + wrong + " wrong");
        if (wrong != 0) {
            System.exit(1);
        }
    }
}
