import java.nio.charset.StandardCharsets;

/** What the tests share: counting wrong answers, and telling a land as a text. */
final class Check {
    private static int asked = 0;
    private static int wrong = 0;
    private static String part = "";

    private Check() {
    }

    static void part(String name) {
        part = name;
    }

    static void due(String what, long got, long want) {
        asked++;
        if (got != want) {
            wrong++;
            System.out.println(part + ": " + what + " answered " + got + ", due is " + want);
        }
    }

    static void due(String what, boolean got, boolean want) {
        due(what, got ? 1 : 0, want ? 1 : 0);
    }

    /** The bytes of a text go on the tape, twenty at a time, blanks behind the last ones. */
    static void feed(BiscuitLess x, String text) {
        byte[] bytes = text.getBytes(StandardCharsets.ISO_8859_1);
        for (int at = 0; at < bytes.length; at += 20) {
            int[] five = new int[5];
            for (int i = 0; i < 20; i++) {
                int sign = at + i < bytes.length ? bytes[at + i] & 255 : 32;
                five[i / 4] = five[i / 4] << 8 | sign;
            }
            x.feed(five[0], five[1], five[2], five[3], five[4]);
        }
    }

    static int tell(BiscuitLess x, String text) {
        feed(x, text);
        return x.land(text.length());
    }

    static BiscuitLess landOf(String text) {
        BiscuitLess x = new BiscuitLess();
        int things = tell(x, text);
        if (things < 0) {
            due("land of \"" + text + "\" fault " + x.fault() + " at " + x.where(), things, 1);
        }
        return x;
    }

    static void end() {
        System.out.println(asked + " answers looked at, " + wrong + " wrong");
        if (wrong != 0) {
            System.exit(1);
        }
    }
}
