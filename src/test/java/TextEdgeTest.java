import java.util.LinkedHashMap;
import java.util.List;
import java.util.Map;
import java.util.Set;

/** The edges of Terms I and of promises 1 to 5: the tape, tokens, bounds, rooms, and each fault's number and place. */
public final class TextEdgeTest {
    private static final int NO = BiscuitLess.NONE;
    private static final Set<String> NO_NAMES =
        Set.of("months", "group", "thing", "change", "house", "office", "gone", "come");
    private static final Set<String> LINE_WORDS = Set.of("months", "group", "thing", "change", "house", "office");
    private static final String HOWS = "dearer|cheaper|smaller|thinner|better|gone|come";

    /** Whatever might stand anywhere: each word of the document, names told and not, wholes, signs, no tokens. */
    private static final List<String> ANYTHING = List.of("months", "group", "thing", "change", "house", "office", "gone",
        "come", "of", "size", "stuff", "price", "month", "dearer", "cheaper", "smaller", "thinner", "better", "notices",
        "pension", "wants", "carry", "near", "drop", "piece", "weight", "fixed", "chained", "a", "b", "x", "h", "o",
        "zz", "abcdefgh", "abcdefghi", "0", "1", "2", "9", "10", "11", "12", "13", "99", "100", "199", "200", "201",
        "998", "999", "000", "010", "1000", "0001", ";", ",", "!", "A", "\t", "\n", "\0", "\u00e9", "");

    /** A whole land, token by token; what a mark means stands in faultOf. */
    private static final List<String> MARKED = List.of("line months", "whole 2 12 3", "end ;", "line group", "new g a",
        "end ;", "line group", "new g b", "end ;", "line thing", "new t x", "word of", "use g a", "word size",
        "whole 10 999 20", "word stuff", "whole 10 200 30", "word price", "whole 1 999 4", "end ;", "line house",
        "new h h", "word notices", "whole 0 99 5", "word pension", "whole 0 999 6", "word wants", "use g a",
        "whole 1 99 7", "more ,", "use g b", "whole 1 99 8", "more ;", "line office", "new o o",
        "one carry|near|drop carry", "one piece|weight piece", "one fixed|chained fixed", "end ;", "line change",
        "use t x", "word month", "whole 1 11 1", "one " + HOWS + " dearer", "whole 1 999 5", "end ;", "line change",
        "use t x", "word month", "whole 1 11 2", "one " + HOWS + " gone", "end ;", "line change", "use t x",
        "word month", "whole 1 11 3", "one " + HOWS + " better", "whole 1 999 6", "end ");

    private TextEdgeTest() {
    }

    public static void main(String[] args) {
        fullTape();
        emptyTape();
        refusedLandLeavesTheTape();
        everyByte();
        wordsOfOneToEightLetters();
        wholesOfOneToThreeDigits();
        whatStandsTogether();
        blanksMeanNothing();
        everythingEverywhere();
        wordsThatMayBeNames();
        namesToldAgain();
        namesOfAnotherSort();
        aheadOfItsUse();
        namesOfAFormerText();
        asManyNamesAsMayBe();
        wantedTwice();
        secondMonths();
        firstFromTheLeft();
        leastNumberOfOnePlace();
        asManyAsThereIsRoomFor();
        oneMoreThanThereIsRoomFor();
        lacks();
        faultOfTheLatestLand();
        placeOnlyBehindAFault();
        faultLeavesTheLand();
        Check.end();
    }

    private static String blanks(int count) {
        return " ".repeat(count);
    }

    // ---- the tape

    private static void fullTape() {
        Check.part("2: none comes if there would be more than 900; THE TAPE has 900 bytes");
        String full = blanks(900 - Check.LEAST.length()) + Check.LEAST;
        BiscuitLess x = new BiscuitLess();
        Check.feed(x, full.substring(0, 880));
        Check.due("feed up to 900", x.feed(-1, 0, 1, 2, 3), 900);
        Check.due("size(6)", x.size(6), 900);
        x = new BiscuitLess();
        Check.feed(x, full);
        for (int n = 0; n < 3; n++) {
            Check.due("feed to a full tape", x.feed(-1, -1, -1, -1, -1), NO);
            Check.due("size(6)", x.size(6), 900);
        }
        Check.due("the full tape is a land, none came", x.land(900), 1);
        Check.due("size(6) behind it", x.size(6), 0);
        Check.due("and there is room again", x.feed(0, 0, 0, 0, 0), 20);
        Check.faulty(full.substring(0, 899), 1, 895);
        Check.faulty(full.substring(0, 899) + "!", 1, 895);
        Check.faulty(blanks(899) + "!", 1, 899);
        Check.faulty(blanks(899), 1, 899);
        Check.faulty(blanks(900), 1, 900);
        Check.faulty("months 2" + blanks(892), 6, 900);
        Check.faulty(";".repeat(900), 1, 0);
        Check.faulty("x".repeat(900), 1, 0);
        Check.faulty("7".repeat(900), 1, 0);
        Check.faulty("months " + "0".repeat(892) + "2", 1, 7);
    }

    private static void emptyTape() {
        Check.part("3: the first n bytes, of none");
        BiscuitLess x = new BiscuitLess();
        Check.refused(x, "land(0) of an empty tape", x.land(0), NO, 4);
        Check.due("fault()", x.fault(), 1);
        Check.due("where()", x.where(), 0);
        Check.refused(x, "land(1) of an empty tape", x.land(1), NO, 2);
        Check.feed(x, Check.LEAST);
        Check.refused(x, "land(0) of a tape that has a land", x.land(0), NO, 4);
        Check.due("where()", x.where(), 0);
        Check.due("it is empty then", x.size(6), 0);
        Check.refused(x, "land(1)", x.land(1), NO, 2);
    }

    private static void refusedLandLeavesTheTape() {
        Check.part("3: refused by 2 (THE TAPE stays)");
        BiscuitLess x = new BiscuitLess();
        Check.feed(x, Check.LEAST);
        int fed = x.size(6);
        for (int n : new int[] {-1, -fed, Integer.MIN_VALUE, fed + 1, fed + 20, 900, 901, Integer.MAX_VALUE}) {
            Check.refused(x, "land(" + n + ")", x.land(n), NO, 2);
            Check.due("size(6) behind it", x.size(6), fed);
        }
        Check.due("no FAULT by then", x.fault(), 0);
        Check.refused(x, "land of all that was fed, blanks too", x.land(fed), 1, 0);
    }

    /** Each byte as a name's only one, and behind a name, in each of the four places of a number. */
    private static void everyByte() {
        Check.part("I: the first byte that begins no TOKEN");
        for (int sign = 0; sign < 256; sign++) {
            boolean isLetter = sign >= 'a' && sign <= 'z';
            for (int ahead = 1; ahead <= 4; ahead++) {
                String alone = "group" + blanks(ahead) + (char) sign;
                boolean isLast = isLetter || sign == ' ';
                Check.faulty(alone, isLetter ? 6 : 1, isLast ? alone.length() : alone.length() - 1);
            }
            String behind = "group ab" + (char) sign;
            boolean isEnd = isLetter || sign == ' ' || sign == ';';
            Check.faulty(behind, isLetter || sign == ' ' ? 6 : 1, isEnd ? 9 : 8);
        }
    }

    // ---- tokens

    private static void wordsOfOneToEightLetters() {
        Check.part("I: WORDS of 1 to 8 small letters");
        for (int letters = 1; letters <= 20; letters++) {
            String text = "group " + "q".repeat(letters);
            Check.faulty(text, letters <= 8 ? 6 : 1, letters <= 8 ? text.length() : 6);
            Check.faulty(text + ";group a", letters <= 8 ? 6 : 1, letters <= 8 ? text.length() + 8 : 6);
        }
        // Names that differ in one letter alone, wherever it stands, or in their length, are two names.
        String[] alike = {"aaaaaaaa", "baaaaaaa", "aaaabaaa", "aaaaaaab", "aaaaaaa", "a", "aa", "b"};
        for (String one : alike) {
            for (String other : alike) {
                String text = "group " + one + ";group " + other;
                boolean again = one.equals(other);
                Check.faulty(text, again ? 3 : 6, again ? text.length() - other.length() : text.length());
            }
        }
    }

    private static void wholesOfOneToThreeDigits() {
        Check.part("I: WHOLES of 1 to 3 digits");
        for (String whole : new String[] {"2", "02", "002", "9", "12", "012"}) {
            BiscuitLess x = Check.landOf(Check.LEAST.replace("months 2", "months " + whole));
            Check.due("months " + whole, x.size(0), Integer.parseInt(whole));
        }
        Check.faulty("months 0002", 1, 7);
        Check.faulty("months 0012;group a", 1, 7);
        Check.faulty("months 0", 4, 7);
        Check.faulty("months 00", 4, 7);
        Check.faulty("months 000", 4, 7);
        Check.faulty("months 0000", 1, 7);
        Check.faulty("months 999", 4, 7);
        Check.faulty("months 9999999999999", 1, 7);
        Check.faulty("months 4294967298", 1, 7);
    }

    private static void whatStandsTogether() {
        Check.part("I: that stand together");
        Check.faulty("mon ths 2", 1, 0);
        Check.faulty("groupa", 1, 0);
        Check.faulty("months 1 2", 4, 7);
        Check.faulty("months 2 1", 1, 9);
        Check.faulty("group a b", 1, 8);
        Check.faulty("group a1", 1, 7);
        Check.faulty("group 1a", 1, 6);
        Check.faulty("group a;;group b", 1, 8);
        Check.faulty("group a,;group b", 1, 7);
        Check.faulty("group a;group b", 6, 15);
        Check.faulty("months12;group a", 6, 16);
    }

    private static void blanksMeanNothing() {
        Check.part("I: blanks part TOKENS and mean nothing else");
        StringBuilder tight = new StringBuilder();
        StringBuilder wide = new StringBuilder("  ");
        for (String mark : MARKED) {
            String token = mark.substring(mark.lastIndexOf(' ') + 1);
            boolean parts = tight.length() > 0 && !token.isEmpty()
                && Character.isLetter(tight.charAt(tight.length() - 1)) && Character.isLetter(token.charAt(0));
            tight.append(parts ? " " : "").append(token);
            wide.append(token).append("   ");
        }
        for (String text : List.of(tight.toString(), wide.toString())) {
            BiscuitLess x = Check.landOf(text);
            Check.row("size, by \"" + text + "\", ", x::size, 3, 2, 1, 3, 1, 1, 0);
            Check.row("SIZE", m -> x.thing(0, m, 0), 20, 20, 20);
            Check.row("PRICE", m -> x.thing(0, m, 2), 4, 9, 9);
            Check.row("THERE", m -> x.thing(0, m, 3), 1, 1, 0);
        }
    }

    // ---- every token in every place

    /** 0 if a land may go on with the token. */
    private static int faultOf(String mark, String token, Map<String, String> names, Set<String> wanted) {
        String[] parts = mark.split(" ");
        boolean isWord = token.matches("[a-z]{1,8}");
        boolean isName = isWord && !NO_NAMES.contains(token);
        boolean isWhole = token.matches("[0-9]{1,3}");
        switch (parts[0]) {
            case "line":
                return token.equals("months") ? 3 : LINE_WORDS.contains(token) ? 0 : 1;
            case "word":
                return token.equals(parts[1]) ? 0 : 1;
            case "one":
                return List.of(parts[1].split("\\|")).contains(token) ? 0 : 1;
            case "new":
                return !isName ? 1 : names.containsKey(token) ? 3 : 0;
            case "use":
                boolean fits = parts[1].equals(names.get(token));
                return !isName ? 1 : !fits ? 2 : wanted.contains(token) ? 3 : 0;
            case "whole":
                int value = isWhole ? Integer.parseInt(token) : 0;
                boolean within = value >= Integer.parseInt(parts[1]) && value <= Integer.parseInt(parts[2]);
                return !isWhole ? 1 : within ? 0 : 4;
            case "more":
                return token.equals(",") || token.equals(";") || token.isEmpty() ? 0 : 1;
            default:
                return token.equals(";") || token.isEmpty() ? 0 : 1;
        }
    }

    private static void everythingEverywhere() {
        Check.part("I: FORM, and what else may be wrong with one TOKEN, in every place of a LAND");
        StringBuilder ahead = new StringBuilder();
        Map<String, String> names = new LinkedHashMap<>();
        Set<String> wanted = Set.of();
        for (int i = 0; i < MARKED.size(); i++) {
            String mark = MARKED.get(i);
            for (String token : ANYTHING) {
                int fault = i == 0 && token.equals("months") ? 0 : faultOf(mark, token, names, wanted);
                tellOneMore(ahead.toString(), token, fault);
            }
            String[] parts = mark.split(" ");
            String told = mark.endsWith(" ") ? "" : parts[parts.length - 1];
            if (parts[0].equals("new")) {
                names.put(told, parts[1]);
            }
            wanted = told.equals(",") ? Set.of("a") : told.equals(";") ? Set.of() : wanted;
            ahead.append(told).append(' ');
        }
        Check.due("and all of it is a land", Check.landOf(ahead.toString()).size(2), 1);
    }

    /** What may stand there is met by no fault up to its end; what may not has its own at its place. */
    private static void tellOneMore(String ahead, String token, int fault) {
        String text = ahead + token;
        if (fault != 0) {
            Check.faulty(text, fault, ahead.length());
            if (!token.isEmpty()) {
                Check.faulty(text + " ; months 99", fault, ahead.length());
            }
            return;
        }
        BiscuitLess x = new BiscuitLess();
        boolean isLand = Check.tell(x, text) >= 0;
        Check.due("place behind \"" + text + "\"", x.where(), isLand ? NO : text.length());
        Check.due("\"" + text + "\" may end there", token.isEmpty() && x.fault() == 1, false);
    }

    // ---- names

    private static void wordsThatMayBeNames() {
        Check.part("I: NAMES are WORDS but months, group, thing, change, house, office, gone, come");
        BiscuitLess x = Check.landOf("group of;thing size of of size 10 stuff 10 price 1;months 3;"
            + "change size month 1 dearer 2;change size month 2 gone;group month;thing stuff of month size 20 stuff 10 price 2;"
            + "house wants notices 0 pension 1 wants of 1,month 2;office carry carry piece fixed;"
            + "office drop drop weight chained;house notices notices 1 pension 1 wants month 1");
        Check.row("size", x::size, 3, 2, 2, 2, 2, 2, 0);
        Check.due("GROUP of the first THING", x.thing(0, 0, 4), 0);
        Check.due("GROUP of the second THING", x.thing(1, 0, 4), 1);
        Check.due("its PRICE in MONTH 1", x.thing(0, 1, 2), 3);
        Check.due("what the second HOUSE buys", x.buys(1, 1, 0, 0), 1);
        for (String word : NO_NAMES) {
            for (String line : new String[] {"group ", "thing ", "change ", "house ", "office "}) {
                Check.faulty(line + word, 1, line.length());
            }
            String use = "group a;house h notices 0 pension 0 wants ";
            Check.faulty(use + word, 1, use.length());
            Check.faulty(use + "a 1," + word, 1, use.length() + 4);
        }
    }

    private static final String FOUR_SORTS = "group g;thing t of g size 10 stuff 10 price 1;"
        + "house h notices 0 pension 0 wants g 1;office o carry piece fixed;";

    private static void namesToldAgain() {
        Check.part("I: 3 a NAME told again");
        for (String line : new String[] {"group ", "thing ", "house ", "office "}) {
            for (String name : new String[] {"g", "t", "h", "o"}) {
                Check.faulty(FOUR_SORTS + line + name, 3, FOUR_SORTS.length() + line.length());
            }
        }
    }

    private static void namesOfAnotherSort() {
        Check.part("I: 2 a NAME that isn't told, or is of another sort than must stand there");
        String[] groups = {"thing a of ", "house a notices 0 pension 0 wants ", "house a notices 0 pension 0 wants g 1,"};
        for (String line : groups) {
            for (String name : new String[] {"t", "h", "o", "a", "z"}) {
                Check.faulty(FOUR_SORTS + line + name, 2, FOUR_SORTS.length() + line.length());
            }
        }
        for (String name : new String[] {"g", "h", "o", "z"}) {
            Check.faulty(FOUR_SORTS + "change " + name, 2, FOUR_SORTS.length() + 7);
        }
    }

    private static void aheadOfItsUse() {
        Check.part("I: each told once, ahead of its use");
        Check.faulty("thing x of a size 10 stuff 10 price 1;group a", 2, 11);
        Check.faulty("group a;change x month 1 gone;thing x of a size 10 stuff 10 price 1", 2, 15);
        Check.faulty("house h notices 0 pension 0 wants a 1;group a", 2, 34);
        Check.faulty("group a;house h notices 0 pension 0 wants a 1,b 1;group b", 2, 46);
        // What must not stand ahead of its use may stand in any order else.
        BiscuitLess x = Check.landOf("office o carry piece fixed;group a;house h notices 0 pension 0 wants a 1;"
            + "thing x of a size 10 stuff 10 price 1;change x month 11 gone;months 2");
        Check.row("size", x::size, 2, 1, 1, 1, 1, 1, 0);
        Check.due("a change of a MONTH that there isn't", x.thing(0, 1, 3), 1);
    }

    private static void namesOfAFormerText() {
        Check.part("I: a NAME that isn't told in this text, whatever former ones told");
        BiscuitLess x = Check.landOf("group a;group b;" + FOUR_SORTS + "months 2");
        String[] texts = {"thing x of ", "group z;thing x of ", "group z;group y;thing x of ",
            "group z;house x notices 0 pension 0 wants ", "change ", "group z;change ",
            "group z;group y;group w;change ", "group z;thing x of z size 10 stuff 10 price 1;group w;change "};
        for (String text : texts) {
            for (String name : new String[] {"a", "b", "g", "t", "h", "o"}) {
                Check.tell(x, "group a;group b;" + FOUR_SORTS + "months 2");
                Check.refused(x, text + name, Check.tell(x, text + name), NO, 4);
                Check.due("fault of " + text + name, x.fault(), 2);
                Check.due("place in " + text + name, x.where(), text.length());
                Check.tell(x, "group " + name + ";group zz;group " + name + "x");
                Check.due("a NAME told again in another text is no fault", x.fault(), 6);
            }
        }
    }

    private static void asManyNamesAsMayBe() {
        Check.part("I: a LAND with a NAME for each LINE there is room for, the last of them used");
        StringBuilder text = new StringBuilder("group a;group b;group c;group d");
        for (char name = 'e'; name <= 'k'; name++) {
            text.append(";thing ").append(name).append(" of d size 10 stuff 10 price 2");
        }
        for (char name = 'l'; name <= 'n'; name++) {
            text.append(";house ").append(name).append(" notices 0 pension 0 wants d 1;office o").append(name)
                .append(" carry piece fixed");
        }
        BiscuitLess x = new BiscuitLess();
        Check.due("THINGS", Check.tell(x, text + ";thing z of d size 10 stuff 10 price 1;change z month 1 gone;months 2"), 8);
        Check.row("THERE of the last", m -> x.thing(7, m, 3), 1, 0, NO);
        Check.row("what a HOUSE buys", m -> x.buys(2, 3, m, 0), 7, 0, NO);
        Check.faulty(text + ";thing z of d size 10 stuff 10 price 1;change ol", 2, text.length() + 46);
    }

    private static void wantedTwice() {
        Check.part("I: 3 a GROUP wanted twice; unlike GROUPS");
        String house = "group a;group b;group c;group d;house h notices 0 pension 0 wants ";
        Check.faulty(house + "a 1,a", 3, house.length() + 4);
        Check.faulty(house + "a 1,b 1,a 1", 3, house.length() + 8);
        Check.faulty(house + "a 1,b 1,c 1,d 1", 6, house.length() + 15);
        for (String name : new String[] {"a", "b", "c", "d"}) {
            Check.faulty(house + "d 1,c 1,b 1,a 1," + name, 3, house.length() + 16);
        }
        Check.faulty(house + "a 1,b 1,c 1,d 1,", 1, house.length() + 16);
        Check.faulty(house + "a 1,b 1,c 1,d 1,e", 2, house.length() + 16);
        String next = house + "a 1;house i notices 0 pension 0 wants ";
        Check.faulty(next + "a 1,b 1", 6, next.length() + 7);
    }

    // ---- faults

    private static void secondMonths() {
        Check.part("I: 3 a second months; at that WORD");
        Check.faulty("months 2;months 2", 3, 9);
        Check.faulty("months 2; months", 3, 10);
        Check.faulty("months 12;months 99", 3, 10);
        Check.faulty("months 2;group a;months!", 3, 17);
        Check.faulty("months 1;months 2", 4, 7);
        Check.faulty(Check.LEAST + ";months 2", 3, Check.LEAST.length() + 1);
    }

    private static void firstFromTheLeft() {
        Check.part("I: FAULTS, the first that is met from the left");
        String ahead = "months 2;group a;thing x of a size 10 stuff 10 price 1;";
        Map<String, int[]> faulty = new LinkedHashMap<>();
        faulty.put("months 2", new int[] {3, 0});
        faulty.put("group gone", new int[] {1, 6});
        faulty.put("thing b of c", new int[] {2, 11});
        faulty.put("house b notices 100", new int[] {4, 16});
        faulty.put("group a", new int[] {3, 6});
        faulty.put("office b lost", new int[] {1, 9});
        faulty.put("change x month 0", new int[] {4, 15});
        faulty.put("change a", new int[] {2, 7});
        faulty.put("!", new int[] {1, 0});
        faulty.put("group b 1000", new int[] {1, 8});
        for (String line : faulty.keySet()) {
            int[] due = faulty.get(line);
            for (String later : faulty.keySet()) {
                Check.faulty(ahead + line + ";" + later, due[0], ahead.length() + due[1]);
            }
            Check.faulty(ahead + line, due[0], ahead.length() + due[1]);
        }
    }

    private static void leastNumberOfOnePlace() {
        Check.part("I: of one place the least number");
        Check.faulty("months 2;months 2", 3, 9);
        Check.faulty("months", 1, 6);
        Check.faulty("group a;", 1, 8);
        Check.faulty("group a;thing gone", 1, 14);
        Check.faulty("change come", 1, 7);
        Check.faulty("months 1000", 1, 7);
        Check.faulty("group a;thing x of abcdefghi", 1, 19);
    }

    /** A sort of LINE: how many there is room for, what stands ahead, and a LINE's parts round its NAME. */
    private record Sort(int room, String ahead, String word, String rest) {
        String full() {
            StringBuilder text = new StringBuilder(ahead);
            for (int n = 0; n < room; n++) {
                String name = word.equals("change") ? "x" : "n" + (char) ('a' + n);
                text.append(text.isEmpty() ? "" : ";").append(word).append(' ').append(name).append(rest);
            }
            return text.toString();
        }
    }

    private static final List<Sort> SORTS = List.of(new Sort(4, "", "group", ""),
        new Sort(8, "group a", "thing", " of a size 10 stuff 10 price 1"),
        new Sort(16, "group a;thing x of a size 10 stuff 10 price 1", "change", " month 1 come"),
        new Sort(3, "group a", "house", " notices 0 pension 0 wants a 1"),
        new Sort(3, "group a", "office", " near weight chained"));

    private static void asManyAsThereIsRoomFor() {
        Check.part("I: up to 4, 8, 16, 3, 3");
        for (Sort sort : SORTS) {
            Check.faulty(sort.full(), 6, sort.full().length());
        }
        String least = Check.LEAST + ";change x month 1 dearer 1".repeat(16);
        Check.due("16 changes", Check.landOf(least).size(3), 16);
        Check.due("and all of them count", Check.landOf(least).thing(0, 1, 2), 17);
    }

    private static void oneMoreThanThereIsRoomFor() {
        Check.part("I: 5 MANY: at its first WORD");
        for (Sort sort : SORTS) {
            String full = sort.full();
            for (String rest : new String[] {" zz" + sort.rest, "", " !", " na", " gone", ";", " a"}) {
                Check.faulty(full + ";" + sort.word + rest, 5, full.length() + 1);
            }
            Check.faulty(full + ";  " + sort.word, 5, full.length() + 3);
            Check.faulty(full + ";!" + sort.word, 1, full.length() + 1);
        }
    }

    private static void lacks() {
        Check.part("I: 6 LACKS, at the end: no months, no thing, no house, no office");
        String[] lines = Check.LEAST.split(";");
        for (int left = 0; left < lines.length; left++) {
            StringBuilder text = new StringBuilder("group b");
            for (int i = 0; i < lines.length; i++) {
                text.append(i == left ? "" : ";" + lines[i]);
            }
            // Without its group a land has an untold name; without any other line it lacks one.
            if (left != 1) {
                Check.faulty(text.toString(), 6, text.length());
                Check.faulty(text + "   ", 6, text.length() + 3);
            }
        }
        Check.faulty("group a", 6, 7);
        BiscuitLess x = Check.landOf("group b;" + Check.LEAST.replace("wants a 1", "wants b 1"));
        Check.due("no lack: a GROUP of no THINGS that is wanted", x.buys(0, 0, 0, 0), -2);
    }

    // ---- fault() and where()

    private static void faultOfTheLatestLand() {
        Check.part("4: the FAULT of the latest land() not refused by 2; 0 without one");
        BiscuitLess x = new BiscuitLess();
        Check.due("ahead of any land()", x.fault(), 0);
        x.land(1);
        Check.due("behind one refused by 2", x.fault(), 0);
        String[] texts = {"months", "change z", "group a;group a", "months 1", "group a;group b;group c;group d;group e",
            "months 2"};
        for (int fault = 1; fault <= 6; fault++) {
            Check.tell(x, texts[fault - 1]);
            Check.due("fault() of \"" + texts[fault - 1] + "\"", x.fault(), fault);
            x.land(-1);
            x.back(0);
            x.undo();
            Check.due("and behind calls refused else", x.fault(), fault);
        }
        Check.tell(x, Check.LEAST);
        Check.due("behind a LAND", x.fault(), 0);
        x.land(1);
        Check.due("behind one refused by 2", x.fault(), 0);
    }

    private static void placeOnlyBehindAFault() {
        Check.part("5: its place, if the latest call that may be refused was by 4; NONE else");
        for (int call = 0; call < 6; call++) {
            BiscuitLess x = Check.landOf(Check.LEAST);
            Check.due("where() of a land", x.where(), NO);
            Check.tell(x, "group gone");
            Check.due("where()", x.where(), 6);
            x.fault();
            x.trouble();
            x.size(0);
            x.thing(9, 9, 9);
            Check.led(x, 9, 9);
            x.feed(0, 0, 0, 0, 0);
            Check.due("where() behind calls that may not be refused by a number", x.where(), 6);
            switch (call) {
                case 0 -> x.land(21);
                case 1 -> x.number(0, 0);
                case 2 -> x.number(0, 9);
                case 3 -> x.undo();
                case 4 -> x.look(0, 0, 0);
                default -> x.change(0, 1, 0, 1);
            }
            Check.due("where() behind call " + call, x.where(), NO);
            Check.due("fault() behind call " + call, x.fault(), 1);
        }
    }

    private static void faultLeavesTheLand() {
        Check.part("3: refused by 4 (the LAND stays)");
        BiscuitLess x = Check.landOf(Check.LEAST.replace("months 2", "months 3").replace("price 1", "price 7"));
        Check.due("change()", x.change(0, 1, 0, 3), 1);
        String other = "months 12;group b;group c;thing y of c size 99 stuff 99 price 99;thing z of b size 9 ";
        Check.refused(x, "land of a text that has a fault at its end", Check.tell(x, other), NO, 4);
        Check.row("size", x::size, 3, 1, 1, 1, 1, 1, 0);
        Check.row("PRICE", m -> x.thing(0, m, 2), 7, 10, 10, NO);
        Check.row("NUMBER", m -> x.number(0, m), 10000, 14285, 14285, NO);
        Check.due("its change goes again", x.undo(), true);
        Check.row("PRICE", m -> x.thing(0, m, 2), 7, 7, 7, NO);
        Check.due("and no other", x.undo(), false);
        Check.tell(x, other.replace("size 9 ", "size 10 stuff 10 price 1;house h notices 0 pension 0 wants b 1"));
        Check.due("nor does one that lacks an OFFICE alone come", x.size(0), 3);
    }
}
