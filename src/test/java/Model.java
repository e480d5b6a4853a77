import java.math.BigInteger;
import java.util.ArrayList;
import java.util.HashMap;
import java.util.HashSet;
import java.util.LinkedHashMap;
import java.util.List;
import java.util.Map;
import java.util.NoSuchElementException;
import java.util.Set;
import java.util.regex.Matcher;
import java.util.regex.Pattern;

/**
 * The document once more, written from its words and apart from the class: no tables, every answer from the
 * definitions, all products in BigInteger. Slow, and only for comparing.
 */
final class Model {
    static final long NO_DIFFERENCE = -1_000_000_000L;

    static final class Fault extends Exception {
        private static final long serialVersionUID = 1L;
        final int number;
        final int place;

        Fault(int number, int place) {
            this.number = number;
            this.place = place;
        }
    }

    record Token(char kind, String text, int place) {
    }

    record Good(int group, int size, int stuff, int price) {
    }

    record News(int thing, int month, String how, int by) {
    }

    record Home(int notices, int pension, Map<Integer, Integer> wants) {
    }

    record Desk(String missing, String sees, String basket) {
    }

    record State(int size, int stuff, int price, boolean there) {
    }

    record Purchase(int thing, int pieces) {
    }

    static final class Told {
        int months;
        final List<String> groups = new ArrayList<>();
        final List<Good> goods = new ArrayList<>();
        final List<News> news = new ArrayList<>();
        final List<Home> homes = new ArrayList<>();
        final List<Desk> desks = new ArrayList<>();
        int textNews;
    }

    private static final Set<String> RESERVED =
        Set.of("months", "group", "thing", "change", "house", "office", "gone", "come");
    private static final List<String> HOWS =
        List.of("dearer", "cheaper", "smaller", "thinner", "better", "gone", "come");

    private final StringBuilder tape = new StringBuilder();
    private Told told = new Told();
    int trouble = 0;
    int fault = 0;
    int place = 0;

    // ---- reading

    private List<Token> tokens;
    private int at;

    private static List<Token> part(String text) {
        Pattern pattern = Pattern.compile(" *(?:([a-z]+)|([0-9]+)|([;,])|([^ ])|\\z)", Pattern.DOTALL);
        Matcher m = pattern.matcher(text);
        List<Token> parts = new ArrayList<>();
        int from = 0;
        while (m.find(from)) {
            from = m.end();
            if (m.group(1) != null) {
                parts.add(new Token(m.group(1).length() > 8 ? '?' : 'w', m.group(1), m.start(1)));
            } else if (m.group(2) != null) {
                parts.add(new Token(m.group(2).length() > 3 ? '?' : 'n', m.group(2), m.start(2)));
            } else if (m.group(3) != null) {
                parts.add(new Token('s', m.group(3), m.start(3)));
            } else if (m.group(4) != null) {
                parts.add(new Token('?', m.group(4), m.start(4)));
            } else {
                break;
            }
        }
        parts.add(new Token('e', "", text.length()));
        return parts;
    }

    private Token now() {
        return tokens.get(at);
    }

    private Fault faultHere(int number) {
        return new Fault(number, now().place);
    }

    private void word(String text) throws Fault {
        if (now().kind != 'w' || !now().text.equals(text)) {
            throw faultHere(1);
        }
        at++;
    }

    private String oneOf(List<String> words) throws Fault {
        if (now().kind != 'w' || !words.contains(now().text)) {
            throw faultHere(1);
        }
        return tokens.get(at++).text;
    }

    private int whole(int least, int most) throws Fault {
        if (now().kind != 'n') {
            throw faultHere(1);
        }
        int value = Integer.parseInt(now().text);
        if (value < least || value > most) {
            throw faultHere(4);
        }
        at++;
        return value;
    }

    private String nameHere() throws Fault {
        if (now().kind != 'w' || RESERVED.contains(now().text)) {
            throw faultHere(1);
        }
        return now().text;
    }

    private void newName(Map<String, String> names, String sort, int number) throws Fault {
        String name = nameHere();
        if (names.containsKey(name)) {
            throw faultHere(3);
        }
        names.put(name, sort + number);
        at++;
    }

    private int oldName(Map<String, String> names, String sort) throws Fault {
        String known = names.getOrDefault(nameHere(), "-");
        if (!known.startsWith(sort)) {
            throw faultHere(2);
        }
        at++;
        return Integer.parseInt(known.substring(1));
    }

    private Told read(String text) throws Fault {
        tokens = part(text);
        at = 0;
        Told land = new Told();
        Map<String, String> names = new HashMap<>();
        line(land, names);
        while (now().kind != 'e') {
            if (!now().text.equals(";")) {
                throw faultHere(1);
            }
            at++;
            line(land, names);
        }
        if (land.months == 0 || land.goods.isEmpty() || land.homes.isEmpty() || land.desks.isEmpty()) {
            throw faultHere(6);
        }
        land.textNews = land.news.size();
        return land;
    }

    private void room(int used, int most) throws Fault {
        if (used >= most) {
            throw faultHere(5);
        }
        at++;
    }

    private void line(Told land, Map<String, String> names) throws Fault {
        String first = now().kind == 'w' ? now().text : "";
        switch (first) {
            case "months" -> {
                if (land.months != 0) {
                    throw faultHere(3);
                }
                at++;
                land.months = whole(2, 12);
            }
            case "group" -> {
                room(land.groups.size(), 4);
                newName(names, "g", land.groups.size());
                land.groups.add(first);
            }
            case "thing" -> {
                room(land.goods.size(), 8);
                newName(names, "t", land.goods.size());
                word("of");
                int group = oldName(names, "g");
                word("size");
                int size = whole(10, 999);
                word("stuff");
                int stuff = whole(10, 200);
                word("price");
                land.goods.add(new Good(group, size, stuff, whole(1, 999)));
            }
            case "change" -> {
                room(land.news.size(), 16);
                int thing = oldName(names, "t");
                word("month");
                int month = whole(1, 11);
                String how = oneOf(HOWS);
                boolean bare = how.equals("gone") || how.equals("come");
                land.news.add(new News(thing, month, how, bare ? 0 : whole(1, 999)));
            }
            case "house" -> {
                room(land.homes.size(), 3);
                newName(names, "h", land.homes.size());
                word("notices");
                int notices = whole(0, 99);
                word("pension");
                int pension = whole(0, 999);
                word("wants");
                land.homes.add(new Home(notices, pension, wants(names)));
            }
            case "office" -> {
                room(land.desks.size(), 3);
                newName(names, "o", land.desks.size());
                String missing = oneOf(List.of("carry", "near", "drop"));
                String sees = oneOf(List.of("piece", "weight"));
                land.desks.add(new Desk(missing, sees, oneOf(List.of("fixed", "chained"))));
            }
            default -> throw faultHere(1);
        }
    }

    private Map<Integer, Integer> wants(Map<String, String> names) throws Fault {
        Map<Integer, Integer> wants = new LinkedHashMap<>();
        while (true) {
            int group = oldName(names, "g");
            if (wants.containsKey(group)) {
                at--;
                throw faultHere(3);
            }
            wants.put(group, whole(1, 99));
            if (!now().text.equals(",")) {
                return wants;
            }
            at++;
        }
    }

    // ---- things and houses

    private State state(int t, int month) {
        Good line = told.goods.get(t);
        int size = line.size;
        int stuff = line.stuff;
        int price = line.price;
        boolean there = told.news.stream().noneMatch(n -> n.thing == t && n.how.equals("come"));
        for (int m = 0; m <= month; m++) {
            for (News n : told.news) {
                if (n.thing != t || n.month != m) {
                    continue;
                }
                switch (n.how) {
                    case "dearer" -> price = Math.min(999, price + n.by);
                    case "cheaper" -> price = Math.max(1, price - n.by);
                    case "smaller" -> size = Math.max(10, size - n.by);
                    case "thinner" -> stuff = Math.max(10, stuff - n.by);
                    case "better" -> stuff = Math.min(200, stuff + n.by);
                    case "gone" -> there = false;
                    default -> there = true;
                }
            }
        }
        return new State(size, stuff, price, there);
    }

    private static int pieces(int want, State s) {
        int worth = s.size * s.stuff;
        int n = want * 100 / worth;
        return n * worth < want * 100 ? n + 1 : n;
    }

    private Purchase best(int group, int want, int month) {
        Purchase best = null;
        long least = Long.MAX_VALUE;
        for (int t = 0; t < told.goods.size(); t++) {
            State s = state(t, month);
            if (told.goods.get(t).group == group && s.there && (long) pieces(want, s) * s.price < least) {
                least = (long) pieces(want, s) * s.price;
                best = new Purchase(t, pieces(want, s));
            }
        }
        return best;
    }

    private Purchase purchase(int house, int group, int month) {
        Home home = told.homes.get(house);
        int want = home.wants.get(group);
        Purchase before = month == 0 ? null : purchase(house, group, month - 1);
        if (before == null) {
            return best(group, want, month);
        }
        State then = state(before.thing, month - 1);
        State s = state(before.thing, month);
        boolean notices = (s.price - then.price) * 100 > home.notices * then.price
            || (then.size - s.size) * 100 > home.notices * then.size;
        return s.there && !notices ? before : best(group, want, month);
    }

    private long trulyOf(int house, int month) {
        long sum = 0;
        for (Map.Entry<Integer, Integer> want : told.homes.get(house).wants.entrySet()) {
            Purchase best = best(want.getKey(), want.getValue(), month);
            sum += best == null ? 0 : (long) best.pieces * state(best.thing, month).price;
        }
        return sum;
    }

    private static long ratio(long factor, BigInteger amount, BigInteger by, long otherwise) {
        if (by.signum() == 0) {
            return otherwise;
        }
        return amount.multiply(BigInteger.valueOf(factor)).divide(by).min(BigInteger.valueOf(1_000_000)).longValueExact();
    }

    private static long ratio(long amount, long by) {
        return ratio(10_000, BigInteger.valueOf(amount), BigInteger.valueOf(by), 10_000);
    }

    private long liveOf(int house, int month) {
        return ratio(trulyOf(house, month), trulyOf(house, 0));
    }

    private int lastThere(int t, int month) {
        int m = month;
        while (!state(t, m).there) {
            m--;
        }
        return m;
    }

    private int piecesBy(int house, int t, int month) {
        int group = told.goods.get(t).group;
        if (!told.homes.get(house).wants.containsKey(group)) {
            return 0;
        }
        Purchase p = purchase(house, group, month);
        return p != null && p.thing == t ? p.pieces : 0;
    }

    private int piecesByAll(int t, int month) {
        int sum = 0;
        for (int h = 0; h < told.homes.size(); h++) {
            sum += piecesBy(h, t, month);
        }
        return sum;
    }

    // ---- offices

    private long seen(Desk desk, int t, int month) {
        State s = state(t, month);
        return desk.sees.equals("piece") ? s.price : s.price * 1000L / s.size;
    }

    private long count(Desk desk, int t, int month) {
        return (long) piecesByAll(t, month) * (desk.sees.equals("piece") ? 1 : state(t, month).size);
    }

    private boolean out(Desk desk, int t, int month) {
        return desk.missing.equals("drop") && !state(t, month).there;
    }

    private long price(Desk desk, int t, int month) {
        if (state(t, month).there) {
            return seen(desk, t, month);
        }
        int last = lastThere(t, month);
        if (desk.missing.equals("near")) {
            int found = -1;
            int gap = Integer.MAX_VALUE;
            for (int u = 0; u < told.goods.size(); u++) {
                State s = state(u, month);
                int off = Math.abs(s.size - state(t, last).size);
                if (told.goods.get(u).group == told.goods.get(t).group && s.there && off < gap) {
                    gap = off;
                    found = u;
                }
            }
            if (found >= 0) {
                return seen(desk, found, month);
            }
        }
        return seen(desk, t, last);
    }

    private long then(Desk desk, int t, int list, int month) {
        return count(desk, t, list) == 0 || out(desk, t, month) ? 0 : count(desk, t, list) * price(desk, t, month);
    }

    private long own(Desk desk, int t, int list, int month) {
        return out(desk, t, month) ? 0 : count(desk, t, list) * seen(desk, t, list);
    }

    private int list(Desk desk, int month) {
        return desk.basket.equals("fixed") ? 0 : Math.max(0, month - 1);
    }

    private long numberOf(int office, int month) {
        if (month == 0) {
            return 10_000;
        }
        Desk desk = told.desks.get(office);
        BigInteger then = BigInteger.ZERO;
        BigInteger own = BigInteger.ZERO;
        for (int t = 0; t < told.goods.size(); t++) {
            then = then.add(BigInteger.valueOf(then(desk, t, list(desk, month), month)));
            own = own.add(BigInteger.valueOf(own(desk, t, list(desk, month), month)));
        }
        if (desk.basket.equals("fixed")) {
            return ratio(10_000, then, own, 10_000);
        }
        long ahead = numberOf(office, month - 1);
        return ratio(ahead, then, own, ahead);
    }

    private boolean isBack(int month) {
        for (int t = 0; t < told.goods.size(); t++) {
            State a = state(t, 0);
            State b = state(t, month);
            if (a.there != b.there || a.there && !a.equals(b)) {
                return false;
            }
        }
        return true;
    }

    // ---- the face

    private long not(int why, long answer) {
        trouble = why;
        return answer;
    }

    private boolean month(int m) {
        return m >= 0 && m < told.months;
    }

    private boolean good(int t) {
        return t >= 0 && t < told.goods.size();
    }

    private boolean home(int h) {
        return h >= 0 && h < told.homes.size();
    }

    private boolean desk(int o) {
        return o >= 0 && o < told.desks.size();
    }

    private boolean group(int g) {
        return g >= 0 && g < told.groups.size();
    }

    long feed(String twenty) {
        if (tape.length() + 20 > 900) {
            return -1;
        }
        tape.append(twenty);
        return tape.length();
    }

    long land(int n) {
        if (n < 0 || n > tape.length()) {
            return not(2, -1);
        }
        String text = tape.substring(0, n);
        tape.setLength(0);
        try {
            told = read(text);
        } catch (Fault f) {
            fault = f.number;
            place = f.place;
            return not(4, -1);
        }
        fault = 0;
        return not(0, told.goods.size());
    }

    long where() {
        return trouble == 4 ? place : -1;
    }

    long thing(int t, int m, int what) {
        if (!good(t) || !month(m) || what < 0 || what > 4) {
            return -1;
        }
        State s = state(t, m);
        return new long[] {s.size, s.stuff, s.price, s.there ? 1 : 0, told.goods.get(t).group}[what];
    }

    long buys(int h, int g, int m, int what) {
        if (!home(h) || !month(m) || !told.homes.get(h).wants.containsKey(g) || what < 0 || what > 1) {
            return not(1, -1);
        }
        Purchase p = purchase(h, g, m);
        if (p == null) {
            return not(0, what == 0 ? -2 : 0);
        }
        return not(0, what == 0 ? p.thing : p.pieces);
    }

    long spent(int h, int m) {
        if (!home(h) || !month(m)) {
            return not(1, -1);
        }
        long sum = 0;
        for (int t = 0; t < told.goods.size(); t++) {
            sum += (long) piecesBy(h, t, m) * state(t, m).price;
        }
        return not(0, sum);
    }

    long missed(int h, int m) {
        if (!home(h) || !month(m)) {
            return not(1, -1);
        }
        long sum = 0;
        for (Map.Entry<Integer, Integer> want : told.homes.get(h).wants.entrySet()) {
            Purchase p = purchase(h, want.getKey(), m);
            State s = p == null ? null : state(p.thing, m);
            long worth = p == null ? 0 : (long) p.pieces * s.size * s.stuff;
            sum += Math.max(0, want.getValue() * 100 - worth);
        }
        return not(0, sum);
    }

    long truly(int h, int m) {
        return !home(h) || !month(m) ? not(1, -1) : not(0, trulyOf(h, m));
    }

    long live(int h, int m) {
        return !home(h) || !month(m) ? not(1, -1) : not(0, liveOf(h, m));
    }

    long number(int o, int m) {
        return !desk(o) || !month(m) ? not(1, -1) : not(0, numberOf(o, m));
    }

    long gives(int o, int t, int m) {
        if (!desk(o) || !month(m) || !good(t)) {
            return not(1, -1);
        }
        Desk d = told.desks.get(o);
        return not(0, then(d, t, list(d, m), m));
    }

    long beside(int o, int h, int m) {
        return !desk(o) || !month(m) || !home(h) ? not(1, NO_DIFFERENCE) : not(0, numberOf(o, m) - liveOf(h, m));
    }

    long back(int m) {
        return !month(m) ? not(1, -1) : not(0, isBack(m) ? 1 : 0);
    }

    long drift(int o, int m) {
        if (!desk(o) || !month(m)) {
            return not(1, NO_DIFFERENCE);
        }
        return isBack(m) ? not(0, numberOf(o, m) - 10_000) : not(5, NO_DIFFERENCE);
    }

    long has(int o, int what) {
        if (!desk(o) || what < 0 || what > 2) {
            return not(1, -1);
        }
        for (int m = 0; m < told.months; m++) {
            if (what == 0 && isBack(m) && numberOf(o, m) != 10_000) {
                return not(0, 0);
            }
            for (int t = 0; what == 1 && t < told.goods.size(); t++) {
                Desk d = told.desks.get(o);
                if (count(d, t, list(d, m)) > 0 && !state(t, m).there) {
                    return not(0, 0);
                }
            }
            for (int h = 0; what == 2 && h < told.homes.size(); h++) {
                if (numberOf(o, m) < liveOf(h, m)) {
                    return not(0, 0);
                }
            }
        }
        return not(0, 1);
    }

    long instead(int h, int m, int side) {
        if (!home(h) || !month(m) || side < 0 || side > 1) {
            return not(1, -1);
        }
        long cost = 0;
        long by = 0;
        for (int t = 0; t < told.goods.size(); t++) {
            int n = piecesBy(h, t, side == 0 ? 0 : m);
            cost += n == 0 ? 0 : (long) n * state(t, lastThere(t, m)).price;
            by += (long) n * told.goods.get(t).price;
        }
        return not(0, ratio(cost, by));
    }

    private long paid(int h, int o, int m) {
        return told.homes.get(h).pension * numberOf(o, m) / 10_000;
    }

    long pension(int h, int o, int m) {
        return !desk(o) || !month(m) || !home(h) ? not(1, -1) : not(0, paid(h, o, m));
    }

    long lacks(int h, int o, int m) {
        if (!desk(o) || !month(m) || !home(h)) {
            return not(1, -1);
        }
        long sum = 0;
        for (int i = 0; i <= m; i++) {
            sum += Math.max(0, trulyOf(h, i) - paid(h, o, i));
        }
        return not(0, sum);
    }

    long nearest(int h, int m) {
        if (!home(h) || !month(m)) {
            return not(1, -1);
        }
        int best = 0;
        for (int o = 1; o < told.desks.size(); o++) {
            if (Math.abs(numberOf(o, m) - liveOf(h, m)) < Math.abs(numberOf(best, m) - liveOf(h, m))) {
                best = o;
            }
        }
        return not(0, best);
    }

    private List<int[]> pairs(int g, int m, int t) {
        List<int[]> pairs = new ArrayList<>();
        for (int a = 0; a <= 20; a++) {
            for (int b = 0; b <= 20; b++) {
                boolean fits = true;
                for (int u = 0; u < told.goods.size(); u++) {
                    State s = state(u, m);
                    if (told.goods.get(u).group == g && s.there) {
                        fits &= Math.abs(s.price - (a * s.size + b * s.stuff) / 100) <= t;
                    }
                }
                if (fits) {
                    pairs.add(new int[] {a, b});
                }
            }
        }
        return pairs;
    }

    long worths(int g, int m, int t) {
        if (!group(g) || !month(m)) {
            return not(1, -1);
        }
        return t < 0 || t > 999 ? not(2, -1) : not(0, pairs(g, m, t).size());
    }

    long span(int g, int m, int t, int what, boolean most) {
        if (!group(g) || !month(m) || what < 0 || what > 1) {
            return not(1, -1);
        }
        if (t < 0 || t > 999) {
            return not(2, -1);
        }
        var values = pairs(g, m, t).stream().mapToInt(p -> p[what]);
        var end = most ? values.max() : values.min();
        return end.isPresent() ? not(0, end.getAsInt()) : not(6, -1);
    }

    private int whyNot(int t, int m, int by, boolean rest) {
        if (!good(t) || m < 1 || !month(m) || !state(t, m).there || !rest) {
            return 1;
        }
        if (by < 1 || by > 99) {
            return 2;
        }
        return told.news.size() >= 20 ? 3 : 0;
    }

    private long gained(int t, int m, int by, int way) {
        State without = state(t, m);
        told.news.add(new News(t, m, List.of("dearer", "smaller", "thinner").get(way), by));
        long pieces = piecesByAll(t, m);
        told.news.remove(told.news.size() - 1);
        return switch (way) {
            case 0 -> by * pieces;
            case 1 -> without.price * by * pieces / without.size;
            default -> without.price * by * pieces / without.stuff;
        };
    }

    long hides(int t, int m, int by, int o) {
        int why = whyNot(t, m, by, desk(o));
        if (why != 0) {
            return not(why, -1);
        }
        int best = -2;
        for (int way = 0; way < 3; way++) {
            List<Integer> bought = new ArrayList<>();
            for (int h = 0; h < told.homes.size(); h++) {
                bought.add(piecesBy(h, t, m));
            }
            long number = numberOf(o, m);
            told.news.add(new News(t, m, List.of("dearer", "smaller", "thinner").get(way), by));
            boolean hidden = numberOf(o, m) <= number;
            for (int h = 0; h < told.homes.size(); h++) {
                hidden &= piecesBy(h, t, m) >= bought.get(h);
            }
            told.news.remove(told.news.size() - 1);
            if (hidden && (best < 0 || gained(t, m, by, way) > gained(t, m, by, best))) {
                best = way;
            }
        }
        return not(0, best);
    }

    long gain(int t, int m, int by, int how) {
        int why = whyNot(t, m, by, how >= 0 && how <= 2);
        return why != 0 ? not(why, -1) : not(0, gained(t, m, by, how));
    }

    long look(int k, int m, int o) {
        if (!desk(o) || !month(m)) {
            return not(1, -1);
        }
        int things = told.goods.size();
        if (k < 1 || k > things) {
            return not(2, -1);
        }
        Desk d = told.desks.get(o);
        long best = -2;
        long gap = Long.MAX_VALUE;
        for (int set = 0; set < 1 << things; set++) {
            long then = 0;
            long own = 0;
            for (int t = 0; t < things; t++) {
                if ((set & 1 << t) != 0) {
                    then += then(d, t, 0, m);
                    own += own(d, t, 0, m);
                }
            }
            if (Integer.bitCount(set) == k && own > 0 && Math.abs(ratio(then, own) - liveOf(0, m)) < gap) {
                gap = Math.abs(ratio(then, own) - liveOf(0, m));
                best = set;
            }
        }
        return not(0, best);
    }

    long change(int t, int m, int how, int by) {
        if (!good(t) || m < 1 || !month(m) || how < 0 || how > 6) {
            return not(1, -1);
        }
        if (how < 5 && (by < 1 || by > 999)) {
            return not(2, -1);
        }
        if (told.news.size() >= 20) {
            return not(3, -1);
        }
        told.news.add(new News(t, m, HOWS.get(how), by));
        return not(0, told.news.size());
    }

    long undo() {
        if (told.news.size() == told.textNews) {
            return not(6, 0);
        }
        told.news.remove(told.news.size() - 1);
        return not(0, 1);
    }

    long led(int h, int i) {
        List<Integer> led = new ArrayList<>();
        for (int m = 1; home(h) && m < told.months; m++) {
            Set<Boolean> other = new HashSet<>();
            for (int g : told.homes.get(h).wants.keySet()) {
                Purchase p = purchase(h, g, m);
                Purchase q = purchase(h, g, m - 1);
                other.add((p == null ? -2 : p.thing) != (q == null ? -2 : q.thing));
            }
            if (other.contains(true)) {
                led.add(m);
            }
        }
        if (i < 0 || i >= led.size()) {
            throw new NoSuchElementException();
        }
        return led.get(i);
    }

    long size(int what) {
        return switch (what) {
            case 0 -> told.months;
            case 1 -> told.groups.size();
            case 2 -> told.goods.size();
            case 3 -> told.news.size();
            case 4 -> told.homes.size();
            case 5 -> told.desks.size();
            case 6 -> tape.length();
            default -> -1;
        };
    }
}
