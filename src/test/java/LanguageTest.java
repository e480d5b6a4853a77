import java.io.IOException;
import java.lang.management.ManagementFactory;
import java.lang.reflect.Executable;
import java.lang.reflect.Field;
import java.lang.reflect.Method;
import java.lang.reflect.Modifier;
import java.nio.file.Files;
import java.nio.file.Path;
import java.util.Arrays;
import java.util.HashSet;
import java.util.List;
import java.util.Set;
import java.util.TreeSet;
import java.util.stream.Collectors;

/** What of LANGUAGE.md can be seen in the source, in the compiled class, and in what the calls make. */
public final class LanguageTest {
    private static final String FACE = "feed(5)int land(1)int fault(0)int where(0)int thing(3)int buys(4)int spent(2)int "
        + "missed(2)int truly(2)int live(2)int number(2)int gives(3)long beside(3)int back(1)int drift(2)int has(2)int "
        + "instead(3)int pension(3)int lacks(3)int nearest(2)int worths(3)int span(5)int hides(4)int gain(4)int "
        + "look(3)int change(4)int undo(0)boolean led(2)int size(1)int trouble(0)int";
    private static final List<String> FORBIDDEN = List.of("->", "::", "Exact(", "finally", "synchronized", "assert ",
        "catch", "static {", "Math.random", "System.", ".equals(", ".hashCode(", "toString(", "new String", "package ",
        "List", "Object", "double", "float", "protected", "volatile", "native");

    private LanguageTest() {
    }

    public static void main(String[] args) throws IOException {
        Class<?> face = BiscuitLess.class;
        checkFace(face);
        checkClasses(face);
        checkSource(Files.readAllLines(Path.of(args.length > 0 ? args[0] : "src/main/java/BiscuitLess.java")));
        checkNothingIsMade();
        Check.end();
    }

    private static void due(String what, boolean holds) {
        Check.due(what, holds, true);
    }

    private static void checkFace(Class<?> face) {
        Check.part("rule 1");
        due("the class is public and final",
            Modifier.isPublic(face.getModifiers()) && Modifier.isFinal(face.getModifiers()));
        Set<String> open = new TreeSet<>();
        Set<String> hidden = new HashSet<>();
        for (Method method : face.getDeclaredMethods()) {
            if (Modifier.isPrivate(method.getModifiers())) {
                hidden.add(method.getName());
            } else {
                due(method + " is public and no static one",
                    Modifier.isPublic(method.getModifiers()) && !Modifier.isStatic(method.getModifiers()));
                open.add(method.getName() + "(" + method.getParameterCount() + ")" + method.getReturnType());
            }
        }
        Check.part("rule 1: " + open);
        due("the methods are those of the document", open.equals(new TreeSet<>(Arrays.asList(FACE.split(" ")))));
        Set<String> names = open.stream().map(name -> name.replaceAll("\\(.*", "")).collect(Collectors.toSet());
        for (Class<?> inner : face.getDeclaredClasses()) {
            for (Method method : inner.getDeclaredMethods()) {
                hidden.add(method.getName());
            }
        }
        hidden.retainAll(names);
        due("no other method bears a name of the face: " + hidden, hidden.isEmpty());
        Set<String> fields = new TreeSet<>();
        for (Field field : face.getDeclaredFields()) {
            if (!Modifier.isPrivate(field.getModifiers())) {
                fields.add(field.getName());
            }
        }
        due("the constants are those of the document: " + fields, fields.equals(Set.of("NONE")));
        Check.due("constructors", face.getDeclaredConstructors().length, 1);
    }

    private static void checkClasses(Class<?> face) {
        Check.part("rules 1, 3, 5 and 11");
        due("at most twelve classes", face.getDeclaredClasses().length < 12);
        checkClass(face);
        for (Class<?> inner : face.getDeclaredClasses()) {
            due(inner + " is static and not public",
                Modifier.isStatic(inner.getModifiers()) && !Modifier.isPublic(inner.getModifiers()));
            checkClass(inner);
        }
    }

    private static void checkClass(Class<?> type) {
        int own = 0;
        for (Field field : type.getDeclaredFields()) {
            boolean isStatic = Modifier.isStatic(field.getModifiers());
            own += isStatic ? 0 : 1;
            due(field + " is final if static", !isStatic || Modifier.isFinal(field.getModifiers()));
        }
        due(type + " has at most twenty fields", own <= 20);
        for (Executable method : type.getDeclaredMethods()) {
            due(method + " takes at most seven", method.getParameterCount() <= 7);
        }
    }

    private static void checkSource(List<String> lines) {
        Check.part("source");
        int start = 0;
        for (int i = 0; i < lines.size(); i++) {
            String line = lines.get(i);
            String code = line.replaceAll("//.*|^\\s*/?\\*.*|\"[^\"]*\"", "");
            for (String word : FORBIDDEN) {
                due("line " + (i + 1) + " without " + word + ": " + line, !code.contains(word));
            }
            due("line " + (i + 1) + " has signs up to 126", line.chars().allMatch(c -> c >= 32 && c <= 126));
            due("line " + (i + 1) + " is short", line.length() <= 120);
            if (line.startsWith("import")) {
                due(line, line.equals("import java.util.NoSuchElementException;"));
            }
            if (line.matches("( {4}| {8})[a-z].*\\) .*\\{|( {4}| {8})[A-Z].*\\) \\{")) {
                start = i;
            }
            if (line.matches("( {4}| {8})\\}")) {
                due("the method that ends in line " + (i + 1) + " has at most sixty lines",
                    i - start < 60 || line.startsWith("    }") && !line.startsWith("        }"));
            }
        }
    }

    /** After the constructor no call but the one that throws makes an object or an array. */
    private static void checkNothingIsMade() {
        Check.part("rule 12");
        var threads = (com.sun.management.ThreadMXBean) ManagementFactory.getThreadMXBean();
        BiscuitLess x = new BiscuitLess();
        long sum = 0;
        long before = 0;
        for (int round = 0; round < 2000; round++) {
            if (round == 1000) {
                before = threads.getCurrentThreadAllocatedBytes();
            }
            sum += callAll(x);
        }
        long made = threads.getCurrentThreadAllocatedBytes() - before;
        due("1000 rounds of all calls made " + made + " bytes (" + sum + ")", made < 16 * 1000);
    }

    private static final int[] TEXT = text("months 4;group a;thing x of a size 100 stuff 100 price 10;"
        + "thing y of a size 50 stuff 100 price 6;change x month 3 gone;house h notices 30 pension 50 wants a 99;"
        + "office o near weight chained");

    private static int[] text(String text) {
        int[] fives = new int[(text.length() + 19) / 20 * 5];
        for (int i = 0; i < fives.length * 4; i++) {
            fives[i / 4] = fives[i / 4] << 8 | (i < text.length() ? text.charAt(i) : ' ');
        }
        return fives;
    }

    private static long callAll(BiscuitLess x) {
        for (int i = 0; i < TEXT.length; i += 5) {
            x.feed(TEXT[i], TEXT[i + 1], TEXT[i + 2], TEXT[i + 3], TEXT[i + 4]);
        }
        long sum = x.land(x.size(6));
        sum += x.change(0, 2, 0, 10) + (x.undo() ? 1 : 0) + x.change(1, 2, 0, 1) + x.fault() + x.where();
        sum += x.thing(0, 1, 0) + x.buys(0, 0, 1, 1) + x.spent(0, 1) + x.missed(0, 1) + x.truly(0, 1) + x.live(0, 1);
        sum += x.number(0, 3) + x.gives(0, 0, 1) + x.beside(0, 0, 1) + x.back(1) + x.drift(0, 1) + x.has(0, 0);
        sum += x.has(0, 1) + x.has(0, 2) + x.instead(0, 3, 0) + x.pension(0, 0, 1) + x.lacks(0, 0, 3) + x.nearest(0, 1);
        sum += x.worths(0, 1, 3) + x.span(0, 1, 3, 0, true) + x.hides(0, 1, 10, 0) + x.gain(0, 1, 10, 1);
        sum += x.look(1, 1, 0) + x.led(0, 0) + x.trouble() + x.land(3) + x.land(0);
        return sum;
    }
}
