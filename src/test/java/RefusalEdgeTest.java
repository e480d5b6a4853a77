import java.util.ArrayList;
import java.util.List;
import java.util.function.Consumer;

/** The refusals of promises 1 to 31 and Terms IV: each number of each call at its edges and beyond them. */
public final class RefusalEdgeTest {
    private static final int NO = BiscuitLess.NONE;

    /** Nothing changes, so that every month is BACK and every thing THERE; each pair a, b of the groups tells 4. */
    private static final String CALM = "months 4;group a;group b;group c;thing p of a size 10 stuff 10 price 4;"
        + "thing q of b size 10 stuff 10 price 4;thing r of c size 10 stuff 10 price 4;thing s of a size 10 stuff 10 price 4;"
        + "house h notices 0 pension 1 wants a 1,b 1,c 1;house i notices 0 pension 1 wants c 1,b 1,a 1;"
        + "office o carry piece fixed;office u near weight chained";

    /** Bounds of one argument, and the number by which what is beyond them is refused (0: by none). */
    private record Arg(int least, int most, int why) {
    }

    private interface Asked {
        long ask(BiscuitLess x, int[] args);
    }

    /** A call with arguments that aren't refused, the answer of a refusal, and the bounds of each argument. */
    private record Call(String name, Asked asked, long refusal, int[] right, Arg... args) {
    }

    private static final Arg THING = new Arg(0, 3, 1);
    private static final Arg GROUP = new Arg(0, 2, 1);
    private static final Arg MONTH = new Arg(0, 3, 1);
    private static final Arg LATER = new Arg(1, 3, 1);
    private static final Arg HOUSE = new Arg(0, 1, 1);
    private static final Arg OFFICE = new Arg(0, 1, 1);
    private static final Arg ONE_OF_TWO = new Arg(0, 1, 1);
    private static final Arg ONE_OF_THREE = new Arg(0, 2, 1);
    private static final Arg OFF = new Arg(0, 999, 2);
    private static final Arg HIDDEN = new Arg(1, 99, 2);

    private RefusalEdgeTest() {
    }

    public static void main(String[] args) {
        List<Call> calls = calls();
        for (Call call : calls) {
            atTheEdges(call);
            beyondTheEdges(call);
            lesserNumberFirst(call);
            ofNoLand(call);
        }
        thingsOwnRefusal();
        ofNoLandElse();
        groupItDoesNotWant();
        sizeOfOthers();
        sizeOfWhatThereIsNot();
        troubleOfTheLatest(calls);
        troubleLeftAlone();
        roomsAreFreeAgain();
        smallLandBehindAFullOne();
        objectsApart();
        fiveHundredAndTwelveCalls();
        Check.end();
    }

    private static List<Call> calls() {
        List<Call> all = new ArrayList<>();
        int[] zeros = new int[4];
        all.add(new Call("buys", (x, a) -> x.buys(a[0], a[1], a[2], a[3]), NO, zeros, HOUSE, GROUP, MONTH, ONE_OF_TWO));
        all.add(new Call("spent", (x, a) -> x.spent(a[0], a[1]), NO, zeros, HOUSE, MONTH));
        all.add(new Call("missed", (x, a) -> x.missed(a[0], a[1]), NO, zeros, HOUSE, MONTH));
        all.add(new Call("truly", (x, a) -> x.truly(a[0], a[1]), NO, zeros, HOUSE, MONTH));
        all.add(new Call("live", (x, a) -> x.live(a[0], a[1]), NO, zeros, HOUSE, MONTH));
        all.add(new Call("number", (x, a) -> x.number(a[0], a[1]), NO, zeros, OFFICE, MONTH));
        all.add(new Call("gives", (x, a) -> x.gives(a[0], a[1], a[2]), NO, zeros, OFFICE, THING, MONTH));
        all.add(new Call("beside", (x, a) -> x.beside(a[0], a[1], a[2]), Check.NO_DIFFERENCE, zeros, OFFICE, HOUSE, MONTH));
        all.add(new Call("back", (x, a) -> x.back(a[0]), NO, zeros, MONTH));
        all.add(new Call("drift", (x, a) -> x.drift(a[0], a[1]), Check.NO_DIFFERENCE, zeros, OFFICE, MONTH));
        all.add(new Call("has", (x, a) -> x.has(a[0], a[1]), NO, zeros, OFFICE, ONE_OF_THREE));
        all.add(new Call("instead", (x, a) -> x.instead(a[0], a[1], a[2]), NO, zeros, HOUSE, MONTH, ONE_OF_TWO));
        all.add(new Call("pension", (x, a) -> x.pension(a[0], a[1], a[2]), NO, zeros, HOUSE, OFFICE, MONTH));
        all.add(new Call("lacks", (x, a) -> x.lacks(a[0], a[1], a[2]), NO, zeros, HOUSE, OFFICE, MONTH));
        all.add(new Call("nearest", (x, a) -> x.nearest(a[0], a[1]), NO, zeros, HOUSE, MONTH));
        all.add(new Call("worths", (x, a) -> x.worths(a[0], a[1], a[2]), NO, zeros, GROUP, MONTH, OFF));
        all.add(new Call("span, least", (x, a) -> x.span(a[0], a[1], a[2], a[3], false), NO, zeros, GROUP, MONTH, OFF,
            ONE_OF_TWO));
        all.add(new Call("span, most", (x, a) -> x.span(a[0], a[1], a[2], a[3], true), NO, zeros, GROUP, MONTH, OFF,
            ONE_OF_TWO));
        int[] trial = {0, 1, 1, 0};
        all.add(new Call("hides", (x, a) -> x.hides(a[0], a[1], a[2], a[3]), NO, trial, THING, LATER, HIDDEN, OFFICE));
        all.add(new Call("gain", (x, a) -> x.gain(a[0], a[1], a[2], a[3]), NO, trial, THING, LATER, HIDDEN, ONE_OF_THREE));
        all.add(new Call("look", (x, a) -> x.look(a[0], a[1], a[2]), NO, new int[] {1, 0, 0}, new Arg(1, 4, 2), MONTH,
            OFFICE));
        all.add(new Call("change", (x, a) -> x.change(a[0], a[1], a[2], a[3]), NO, new int[] {0, 1, 0, 1}, THING, LATER,
            new Arg(0, 6, 1), new Arg(1, 999, 2)));
        all.add(new Call("land", (x, a) -> x.land(a[0]), NO, new int[] {CALM.length()}, new Arg(CALM.length(),
            CALM.length(), 0)));
        return all;
    }

    /** A calm land, with the same text on its tape once more. */
    private static BiscuitLess calm() {
        BiscuitLess x = Check.landOf(CALM);
        Check.feed(x, CALM);
        return x;
    }

    private static int[] with(Call call, int which, int value) {
        int[] args = call.right.clone();
        args[which] = value;
        return args;
    }

    private static String shown(Call call, int[] args) {
        StringBuilder text = new StringBuilder(call.name).append('(');
        for (int i = 0; i < call.args.length; i++) {
            text.append(i == 0 ? "" : ", ").append(args[i]);
        }
        return text.append(')').toString();
    }

    private static List<Integer> beyond(Arg arg) {
        return arg.why == 0 ? List.of() : List.of(arg.least - 1, arg.most + 1, Integer.MIN_VALUE, Integer.MAX_VALUE);
    }

    private static void atTheEdges(Call call) {
        Check.part("what is: " + call.name);
        for (int i = 0; i < call.args.length; i++) {
            for (int value : new int[] {call.args[i].least, call.args[i].most}) {
                BiscuitLess x = calm();
                x.back(99);
                int[] args = with(call, i, value);
                long got = call.asked.ask(x, args);
                Check.due(shown(call, args) + " is refused", got == call.refusal, false);
                Check.due("trouble() behind " + shown(call, args), x.trouble(), 0);
            }
        }
    }

    private static void beyondTheEdges(Call call) {
        Check.part("what isn't: " + call.name);
        for (int i = 0; i < call.args.length; i++) {
            for (int value : beyond(call.args[i])) {
                BiscuitLess x = calm();
                String before = Answers.of(x);
                x.back(0);
                int[] args = with(call, i, value);
                Check.refused(x, shown(call, args), call.asked.ask(x, args), call.refusal, call.args[i].why);
                Check.due("where() behind it", x.where(), NO);
                Check.due("all answers are as before " + shown(call, args), Answers.of(x).equals(before), true);
            }
        }
    }

    private static void lesserNumberFirst(Call call) {
        Check.part("of several refusals the one that is listed first: " + call.name);
        for (int i = 0; i < call.args.length; i++) {
            for (int j = 0; j < call.args.length; j++) {
                Arg one = call.args[i];
                Arg other = call.args[j];
                if (one.why > 0 && one.why < other.why) {
                    BiscuitLess x = calm();
                    int[] args = with(call, i, one.most + 1);
                    args[j] = other.most + 1;
                    Check.refused(x, shown(call, args), call.asked.ask(x, args), call.refusal, one.why);
                    args[i] = one.least - 1;
                    args[j] = other.least - 1;
                    Check.refused(x, shown(call, args), call.asked.ask(x, args), call.refusal, one.why);
                }
            }
        }
    }

    private static void ofNoLand(Call call) {
        Check.part("1: no LAND: " + call.name);
        BiscuitLess x = new BiscuitLess();
        int why = call.name.equals("land") ? 2 : 1;
        Check.refused(x, shown(call, call.right), call.asked.ask(x, call.right), call.refusal, why);
        for (int i = 0; i < call.args.length; i++) {
            for (int value : beyond(call.args[i])) {
                int[] args = with(call, i, value);
                Check.refused(x, shown(call, args), call.asked.ask(x, args), call.refusal, why);
            }
        }
    }

    private static void ofNoLandElse() {
        Check.part("1: no LAND");
        BiscuitLess x = new BiscuitLess();
        Check.due("trouble()", x.trouble(), 0);
        Check.due("fault()", x.fault(), 0);
        Check.due("where()", x.where(), NO);
        Check.row("size", x::size, 0, 0, 0, 0, 0, 0, 0, NO);
        Check.row("thing", what -> x.thing(0, 0, what), NO, NO, NO, NO, NO, NO);
        Check.refused(x, "undo()", x.undo() ? 1 : 0, 0, 6);
        Check.due("feed", x.feed(0, 0, 0, 0, 0), 20);
        Check.due("trouble()", x.trouble(), 6);
    }

    private static void thingsOwnRefusal() {
        Check.part("6: NONE: none such, by no number");
        BiscuitLess x = calm();
        for (int right : new int[] {0, 3}) {
            Check.due("thing(" + right + ", 0, 0)", x.thing(right, 0, 0), 10);
            Check.due("thing(0, " + right + ", 0)", x.thing(0, right, 0), 10);
        }
        Check.row("thing(2, 3, ..)", what -> x.thing(2, 3, what), 10, 10, 4, 1, 2, NO);
        for (int wrong : new int[] {-1, 4, 5, Integer.MIN_VALUE, Integer.MAX_VALUE}) {
            Check.due("thing(" + wrong + ", 0, 0)", x.thing(wrong, 0, 0), NO);
            Check.due("thing(0, " + wrong + ", 0)", x.thing(0, wrong, 0), NO);
            Check.due("thing(0, 0, " + wrong + ")", x.thing(0, 0, wrong), wrong == 4 ? 0 : NO);
        }
        Check.due("trouble()", x.trouble(), 0);
    }

    private static void groupItDoesNotWant() {
        Check.part("7: NONE: 1 (a GROUP it doesn't want, too)");
        BiscuitLess x = Check.landOf("months 2;group a;group b;group c;group d;thing x of a size 10 stuff 10 price 1;"
            + "house h notices 0 pension 0 wants b 1,d 1;house i notices 0 pension 0 wants a 1,c 1;"
            + "house j notices 0 pension 0 wants a 1,b 1,c 1,d 1;office o carry piece fixed");
        int[][] due = {{NO, -2, NO, -2}, {0, NO, -2, NO}, {0, -2, -2, -2}};
        for (int house = 0; house < 3; house++) {
            for (int group = 0; group < 4; group++) {
                int want = due[house][group];
                Check.refused(x, "buys(" + house + ", " + group + ", 0, 0)", x.buys(house, group, 0, 0), want,
                    want == NO ? 1 : 0);
                Check.due("pieces", x.buys(house, group, 1, 1), want == -2 ? 0 : want == NO ? NO : 1);
            }
        }
    }

    // ---- size

    private static void sizeOfOthers() {
        Check.part("30: NONE for others");
        BiscuitLess x = calm();
        Check.row("size", x::size, 4, 3, 4, 0, 2, 2, (CALM.length() + 19) / 20 * 20, NO, NO);
        for (int wrong : new int[] {-1, -2, 7, 8, Integer.MIN_VALUE, Integer.MAX_VALUE}) {
            Check.due("size(" + wrong + ")", x.size(wrong), NO);
        }
        Check.due("trouble()", x.trouble(), 0);
    }

    private static void sizeOfWhatThereIsNot() {
        Check.part("30: 0 for what there isn't");
        BiscuitLess x = new BiscuitLess();
        Check.row("no LAND", x::size, 0, 0, 0, 0, 0, 0, 0);
        Check.tell(x, CALM + ";group d;group e");
        Check.row("a FAULT", x::size, 0, 0, 0, 0, 0, 0, 0);
        Check.tell(x, CALM);
        Check.row("no changes, no TAPE", x::size, 4, 3, 4, 0, 2, 2, 0);
        x.change(0, 1, 0, 1);
        Check.due("changes", x.size(3), 1);
        x.undo();
        Check.due("changes", x.size(3), 0);
        for (int n = 1; n <= 45; n++) {
            x.feed(0, 0, 0, 0, 0);
            Check.due("bytes", x.size(6), 20 * n);
        }
        x.feed(0, 0, 0, 0, 0);
        Check.due("bytes", x.size(6), 900);
    }

    // ---- trouble

    /** Calls after which trouble() tells 0, 1, .. 6. */
    private static final List<Consumer<BiscuitLess>> TROUBLES = List.of(x -> x.back(0), x -> x.back(99),
        x -> x.worths(0, 0, -1), RefusalEdgeTest::fill, x -> x.land(0), RefusalEdgeTest::drifts, BiscuitLess::undo);

    private static void fill(BiscuitLess x) {
        for (int n = 0; n < 21; n++) {
            x.change(3, 3, 4, 1);
        }
    }

    private static void drifts(BiscuitLess x) {
        x.change(3, 3, 4, 1);
        x.drift(0, 3);
    }

    private static void troubleOfTheLatest(List<Call> calls) {
        Check.part("IV: TROUBLE of the latest call that may be refused: 0 it wasn't");
        for (int number = 0; number <= 6; number++) {
            for (Call call : calls) {
                BiscuitLess x = calm();
                TROUBLES.get(number).accept(x);
                Check.due("trouble()", x.trouble(), number);
                Check.due("trouble() again", x.trouble(), number);
                boolean hasRoom = number != 3 || !call.name.matches("hides|gain|change");
                boolean hasTape = number != 4 || !call.name.equals("land");
                call.asked.ask(x, call.right);
                Check.due("trouble() behind " + shown(call, call.right), x.trouble(), hasRoom ? hasTape ? 0 : 2 : 3);
            }
            BiscuitLess x = calm();
            TROUBLES.get(number).accept(x);
            boolean goes = x.undo();
            Check.due("trouble() behind undo()", x.trouble(), goes ? 0 : 6);
        }
    }

    private static void troubleLeftAlone() {
        Check.part("IV: those of which a number is told");
        for (int number = 0; number <= 6; number++) {
            BiscuitLess x = calm();
            TROUBLES.get(number).accept(x);
            int place = number == 4 ? 0 : NO;
            List<Runnable> others = List.of(() -> x.thing(0, 0, 0), () -> x.thing(-1, 0, 0), () -> x.size(0), () -> x.size(9),
                () -> Check.led(x, 0, 0), () -> Check.led(x, 9, 9), x::fault, x::where, x::trouble,
                () -> x.feed(0, 0, 0, 0, 0));
            for (int i = 0; i < others.size(); i++) {
                others.get(i).run();
                Check.due("trouble() behind other " + i, x.trouble(), number);
                Check.due("where() behind other " + i, x.where(), place);
            }
            for (int n = 0; n < 46; n++) {
                x.feed(0, 0, 0, 0, 0);
            }
            Check.due("feed beyond 900", x.feed(0, 0, 0, 0, 0), NO);
            Check.due("trouble() behind it", x.trouble(), number);
        }
    }

    // ---- one land behind another

    private static void roomsAreFreeAgain() {
        Check.part("3: a LAND has all its room, whatever was before");
        BiscuitLess x = new BiscuitLess();
        String full = Check.LEAST + ";change x month 1 dearer 1".repeat(16);
        for (int n = 0; n < 3; n++) {
            Check.due("land()", Check.tell(x, full), 1);
            Check.due("changes", x.size(3), 16);
            fillUp(x);
        }
        Check.due("land() without changes", Check.tell(x, Check.LEAST), 1);
        Check.due("changes", x.size(3), 0);
        Check.due("PRICE", x.thing(0, 1, 2), 1);
        fillUp(x);
    }

    private static void fillUp(BiscuitLess x) {
        for (int n = x.size(3) + 1; n <= 20; n++) {
            Check.due("change()", x.change(0, 1, 0, 1), n);
        }
        Check.due("change()", x.change(0, 1, 0, 1), NO);
    }

    private static final String FULL = "months 12;group a;group b;group c;group d;"
        + "thing p of a size 10 stuff 10 price 1;thing q of a size 99 stuff 200 price 99;"
        + "thing r of b size 10 stuff 10 price 99;thing s of b size 50 stuff 50 price 3;"
        + "thing t of c size 20 stuff 10 price 1;thing u of c size 30 stuff 11 price 2;"
        + "thing v of d size 10 stuff 10 price 1;thing w of d size 20 stuff 20 price 9;change v month 1 dearer 999;"
        + "change p month 2 gone;change q month 3 gone;change s month 4 gone;change u month 3 come;"
        + "house h notices 0 pension 999 wants a 99,b 99,c 99,d 99;house i notices 99 pension 0 wants d 99;"
        + "house j notices 50 pension 1 wants b 1;office e carry weight chained;office f near weight fixed;"
        + "office g drop piece chained";

    private static void smallLandBehindAFullOne() {
        Check.part("3: the LAND from now on");
        for (String text : List.of(Check.LEAST, CALM, FULL)) {
            String alone = Answers.of(Check.landOf(text));
            for (String former : List.of(FULL, CALM, Check.LEAST, FULL + ";months 3")) {
                BiscuitLess x = new BiscuitLess();
                Check.tell(x, FULL);
                x.change(0, 1, 0, 7);
                Check.tell(x, former);
                Check.tell(x, "group z;" + former);
                Check.tell(x, text);
                Check.due("all answers are those of a new object", Answers.of(x).equals(alone), true);
                Check.due("trouble() of undo()", x.undo(), false);
            }
        }
    }

    private static void objectsApart() {
        Check.part("1: an object knows of no other");
        BiscuitLess one = new BiscuitLess();
        BiscuitLess other = new BiscuitLess();
        Check.tell(one, FULL);
        Check.refused(other, "number(0, 0)", other.number(0, 0), NO, 1);
        Check.refused(one, "number(0, 0)", one.number(0, 0), 10000, 0);
        Check.due("trouble() of the other", other.trouble(), 1);
        Check.tell(other, Check.LEAST);
        other.change(0, 1, 0, 5);
        Check.due("THINGS of the first", one.size(2), 8);
        Check.due("changes of the first", one.size(3), 5);
        Check.due("PRICE of the other", other.thing(0, 1, 2), 6);
        Check.due("PRICE of the first", one.thing(0, 1, 2), 1);
    }

    private static void fiveHundredAndTwelveCalls() {
        Check.part("an object is used for at most 512 calls");
        BiscuitLess x = new BiscuitLess();
        int calls = 0;
        for (int at = 0; at < FULL.length(); at += 20) {
            Check.feed(x, FULL.substring(at, Math.min(FULL.length(), at + 20)));
            calls++;
        }
        Check.due("land()", x.land(FULL.length()), 8);
        calls++;
        while (calls < 508) {
            Check.due("change()", x.change(0, 1, 0, 1), 6);
            Check.due("undo()", x.undo(), true);
            calls += 2;
        }
        Check.due("change()", x.change(0, 1, 0, 1), 6);
        Check.due("PRICE", x.thing(0, 1, 2), 2);
        Check.due("NUMBER", x.number(0, 0), 10000);
    }
}
