import java.util.ArrayList;
import java.util.List;
import java.util.NoSuchElementException;
import java.util.Random;

/** Random lands, whole and spoilt, and random calls: the class must answer what the model answers. */
public final class ModelTest {
    private static final String[] HOWS = {"dearer", "cheaper", "smaller", "thinner", "better", "gone", "come"};
    private static final String[] SPOILS = {"months", "group", "gone", "of", ";", ",", "0", "1", "1000", "abcdefghi",
        "a", "b", "x", "y", "h", "o", "99", "100", "999", "size", "A", "-", "\u00e9", "", "month", "2", "12", "13",
        "thing", "house", "office", "change", "\t", "\0", "007"};

    private final Random random;
    private BiscuitLess x = new BiscuitLess();
    private Model model = new Model();

    private ModelTest(long seed) {
        random = new Random(seed);
    }

    public static void main(String[] args) {
        int rounds = args.length > 1 ? Integer.parseInt(args[1]) : 250;
        for (int seed = 0; seed < rounds; seed++) {
            Check.part("seed " + seed);
            new ModelTest(seed).run();
        }
        Check.end();
    }

    private int upTo(int most) {
        return random.nextInt(most + 1);
    }

    private String pick(String... words) {
        return words[random.nextInt(words.length)];
    }

    private void run() {
        for (int lands = 0; lands < 2; lands++) {
            String text = text();
            tell(text);
            for (int spoilt = 0; spoilt < 6; spoilt++) {
                tell(spoilt(text()));
            }
            for (int calls = 0; calls < 120; calls++) {
                call(upTo(26));
            }
        }
    }

    private String text() {
        int months = 2 + upTo(10);
        int groups = 1 + upTo(3);
        int things = 1 + upTo(7);
        int mildness = upTo(2);
        List<String> lines = new ArrayList<>();
        for (int g = 0; g < groups; g++) {
            lines.add("group " + "abcd".charAt(g));
        }
        for (int t = 0; t < things; t++) {
            int size = mildness == 0 ? 10 + upTo(989) : 10 + upTo(60);
            int price = mildness == 2 ? 1 + upTo(20) : 1 + upTo(998);
            lines.add("thing t" + "abcdefgh".charAt(t) + " of " + "abcd".charAt(upTo(groups - 1)) + " size " + size
                + " stuff " + (10 + upTo(mildness == 1 ? 40 : 190)) + " price " + price);
        }
        int changes = upTo(16);
        for (int c = 0; c < changes; c++) {
            int how = upTo(6);
            if (how == 6 && upTo(2) > 0) {
                how = upTo(5);
            }
            int by = mildness == 0 ? 1 + upTo(998) : 1 + upTo(30);
            lines.add("change t" + "abcdefgh".charAt(upTo(things - 1)) + " month " + (1 + upTo(Math.min(10, months - 1)))
                + " " + HOWS[how] + (how < 5 ? " " + by : ""));
        }
        int houses = 1 + upTo(2);
        for (int h = 0; h < houses; h++) {
            lines.add("house h" + "abc".charAt(h) + " notices " + upTo(upTo(1) == 0 ? 99 : 20) + " pension " + upTo(999)
                + " wants " + wants(groups));
        }
        int offices = 1 + upTo(2);
        for (int o = 0; o < offices; o++) {
            lines.add("office o" + "abc".charAt(o) + " " + pick("carry", "near", "drop") + " " + pick("piece", "weight")
                + " " + pick("fixed", "chained"));
        }
        lines.add(upTo(lines.size()), "months " + months);
        StringBuilder all = new StringBuilder(String.join(upTo(1) == 0 ? ";" : " ; ", lines));
        return all.length() > 890 ? text() : all.toString();
    }

    private String wants(int groups) {
        List<String> wants = new ArrayList<>();
        for (int g = 0; g < groups; g++) {
            if (upTo(2) > 0 || wants.isEmpty() && g == groups - 1) {
                wants.add("abcd".charAt(g) + " " + (1 + upTo(98)));
            }
        }
        return String.join(",", wants);
    }

    /** Takes one token or byte for another, or cuts the end, or puts one more between. */
    private String spoilt(String text) {
        int at = upTo(text.length() - 1);
        int end = Math.min(text.length(), at + 1 + upTo(6));
        return switch (upTo(5)) {
            case 0 -> text.substring(0, at);
            case 1 -> text.substring(0, at) + pick(SPOILS) + text.substring(end);
            case 2 -> text.substring(0, at) + " " + pick(SPOILS) + " " + text.substring(at);
            case 3 -> text + ";" + text.split(";")[upTo(text.split(";").length - 1)];
            case 4 -> {
                String[] words = text.split(" ");
                words[upTo(words.length - 1)] = pick(SPOILS);
                yield String.join(" ", words);
            }
            default -> {
                String[] lines = text.split(";");
                lines[upTo(lines.length - 1)] = lines[upTo(lines.length - 1)];
                yield String.join(";", lines);
            }
        };
    }

    private void tell(String text) {
        String cut = text.length() > 900 ? text.substring(0, 900) : text;
        String shown = "land(\"" + cut + "\")";
        for (int at = 0; at < cut.length(); at += 20) {
            StringBuilder twenty = new StringBuilder(cut.substring(at, Math.min(cut.length(), at + 20)));
            while (twenty.length() < 20) {
                twenty.append(' ');
            }
            Check.feed(x, twenty.toString());
            model.feed(twenty.toString());
        }
        Check.due("size(6) ahead of " + shown, x.size(6), model.size(6));
        Check.due(shown, x.land(cut.length()), model.land(cut.length()));
        marks(shown);
        for (int what = -1; what <= 7; what++) {
            Check.due("size(" + what + ") behind " + shown, x.size(what), model.size(what));
        }
    }

    private void marks(String behind) {
        Check.due("trouble() behind " + behind, x.trouble(), model.trouble);
        Check.due("fault() behind " + behind, x.fault(), model.fault);
        Check.due("where() behind " + behind, x.where(), model.where());
    }

    /** Mostly an index that is there, now and then one beside it. */
    private int index(int count) {
        return upTo(11) == 0 ? (upTo(1) == 0 ? -1 - upTo(3) : count + upTo(3)) : upTo(Math.max(0, count - 1));
    }

    private void call(int which) {
        int m = index(x.size(0));
        int g = index(x.size(1));
        int t = index(x.size(2));
        int h = index(x.size(4));
        int o = index(x.size(5));
        int two = index(2);
        int three = index(3);
        int by = upTo(9) == 0 ? upTo(1200) - 100 : 1 + upTo(40);
        int off = upTo(3) == 0 ? upTo(1200) - 100 : upTo(60);
        boolean most = random.nextBoolean();
        int how = index(7);
        int five = index(5);
        String s = which + " m" + m + " g" + g + " t" + t + " h" + h + " o" + o + " two" + two + " three" + three
            + " by" + by + " off" + off + " most" + most + " how" + how + " five" + five;
        switch (which) {
            case 0 -> Check.due("thing " + s, x.thing(t, m, five), model.thing(t, m, five));
            case 1 -> Check.due("buys " + s, x.buys(h, g, m, two), model.buys(h, g, m, two));
            case 2 -> Check.due("spent " + s, x.spent(h, m), model.spent(h, m));
            case 3 -> Check.due("missed " + s, x.missed(h, m), model.missed(h, m));
            case 4 -> Check.due("truly " + s, x.truly(h, m), model.truly(h, m));
            case 5 -> Check.due("live " + s, x.live(h, m), model.live(h, m));
            case 6 -> Check.due("number " + s, x.number(o, m), model.number(o, m));
            case 7 -> Check.due("gives " + s, x.gives(o, t, m), model.gives(o, t, m));
            case 8 -> Check.due("beside " + s, x.beside(o, h, m), model.beside(o, h, m));
            case 9 -> Check.due("back " + s, x.back(m), model.back(m));
            case 10 -> Check.due("drift " + s, x.drift(o, m), model.drift(o, m));
            case 11 -> Check.due("has " + s, x.has(o, three), model.has(o, three));
            case 12 -> Check.due("instead " + s, x.instead(h, m, two), model.instead(h, m, two));
            case 13 -> Check.due("pension " + s, x.pension(h, o, m), model.pension(h, o, m));
            case 14 -> Check.due("lacks " + s, x.lacks(h, o, m), model.lacks(h, o, m));
            case 15 -> Check.due("nearest " + s, x.nearest(h, m), model.nearest(h, m));
            case 16 -> Check.due("worths " + s, x.worths(g, m, off), model.worths(g, m, off));
            case 17 -> Check.due("span " + s, x.span(g, m, off, two, most), model.span(g, m, off, two, most));
            case 18 -> Check.due("hides " + s, x.hides(t, m, by, o), model.hides(t, m, by, o));
            case 19 -> Check.due("gain " + s, x.gain(t, m, by, three), model.gain(t, m, by, three));
            case 20 -> Check.due("look " + s, x.look(t + 1, m, o), model.look(t + 1, m, o));
            case 21 -> Check.due("change " + s, x.change(t, m, how, by), model.change(t, m, how, by));
            case 22 -> Check.due("undo " + s, x.undo() ? 1 : 0, model.undo());
            case 23, 24 -> Check.due("led " + s, Check.led(x, h, three - 1), modelLed(h, three - 1));
            case 25 -> Check.due("size " + s, x.size(how), model.size(how));
            default -> {
                int n = upTo(3) - 1;
                Check.due("land(" + n + ")", x.land(n), model.land(n));
            }
        }
        marks(s);
    }

    private long modelLed(int h, int i) {
        try {
            return model.led(h, i);
        } catch (NoSuchElementException e) {
            return Check.THROWN;
        }
    }
}
