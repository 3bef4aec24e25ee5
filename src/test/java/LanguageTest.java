import java.io.IOException;
import java.lang.management.ManagementFactory;
import java.lang.reflect.Constructor;
import java.lang.reflect.Field;
import java.lang.reflect.Method;
import java.lang.reflect.Modifier;
import java.nio.file.Files;
import java.nio.file.Path;
import java.util.ArrayList;
import java.util.Arrays;
import java.util.List;
import java.util.TreeSet;
import java.util.regex.Matcher;
import java.util.regex.Pattern;

/** The rules of LANGUAGE.md, as far as a look at the source and at the classes can tell. */
final class LanguageTest {
    private static final String FACE = "status() top() bottom() tray(int,int,int)"
            + " write(int,int,long) read(int,int) pour(int,int,int,int,int)"
            + " feed(int,int,int,int,int) coast(int) years(int) fault(int) many(int) rock(int,int)"
            + " deep(int) cousin(int,int) shown(int) copyTan(int) sun(int,int) rain(int)"
            + " veil(int,boolean) ink(int,int) wash(int) wreck(int,int) sail(int,int,int,int)"
            + " born(int,int,int) rule(int) charted(int) open(int) way(int,int,int)"
            + " wayAt(int,int,int,int) strikes(int,int,int,int) fewest(int,int,int)"
            + " fewestSet(int,int,int) deepest(int,int,int) wants(int) forged(int) parted(int,int)"
            + " cover() coverSet() fits(int,int,int,int) fitsAt(int,int,int,int,int) ask(int,int)"
            + " game(int) moveOf(int) infant(int,int,int) fades(int,int) freckled(int) live(int)"
            + " lived(int) mean(int,int) mark() back()";
    private static final String LONGS = "top bottom read";
    private static final String BOOLEANS = "tray write pour veil rule infant fades freckled mean";
    private static final String FORBIDDEN = "throw throws try catch finally synchronized assert"
            + " instanceof import package native volatile transient strictfp var yield double float";

    private final Expect expect = new Expect();

    public static void main(String[] args) throws IOException {
        LanguageTest t = new LanguageTest();
        t.face();
        for (Class<?> c : FreckleChart.class.getDeclaredClasses()) {
            t.inside(c);
        }
        t.source(Files.readString(Path.of("src/main/java/FreckleChart.java")));
        t.room();
        t.expect.end("LanguageTest");
    }

    private void face() {
        Class<?> c = FreckleChart.class;
        expect.same("public and final", c.getModifiers(), Modifier.PUBLIC | Modifier.FINAL);
        TreeSet<String> open = new TreeSet<>();
        for (Method m : c.getDeclaredMethods()) {
            if (Modifier.isPublic(m.getModifiers())) {
                open.add(signature(m));
                String type = LONGS.contains(m.getName()) ? "long"
                        : Arrays.asList(BOOLEANS.split(" ")).contains(m.getName()) ? "boolean" : "int";
                expect.holds(m + " answers " + type, m.getReturnType().getName().equals(type));
            } else {
                expect.holds(m + " is private", Modifier.isPrivate(m.getModifiers()));
            }
        }
        expect.holds("the face: " + open, open.equals(new TreeSet<>(Arrays.asList(FACE.split(" ")))));
        Constructor<?>[] makers = c.getDeclaredConstructors();
        expect.same("constructors", makers.length, 1);
        expect.same("the constructor's numbers", makers[0].getParameterCount(), 0);
        expect.holds("the constructor is public", Modifier.isPublic(makers[0].getModifiers()));
        for (Field f : c.getDeclaredFields()) {
            expect.same(f + " is private, unless it is NONE", f.getModifiers() & Modifier.PRIVATE,
                    f.getName().equals("NONE") ? 0 : Modifier.PRIVATE);
        }
        members(c);
        expect.holds("some twelve classes", c.getDeclaredClasses().length < 12);
    }

    private static String signature(Method m) {
        StringBuilder s = new StringBuilder(m.getName()).append('(');
        for (Class<?> type : m.getParameterTypes()) {
            s.append(s.charAt(s.length() - 1) == '(' ? "" : ",").append(type.getName());
        }
        return s.append(')').toString();
    }

    private void inside(Class<?> c) {
        int modifiers = c.getModifiers();
        expect.holds(c + " is static", Modifier.isStatic(modifiers));
        expect.fails(c + " is public or protected",
                Modifier.isPublic(modifiers) || Modifier.isProtected(modifiers));
        expect.same("classes inside " + c, c.getDeclaredClasses().length, 0);
        TreeSet<String> open = new TreeSet<>();
        for (String one : FACE.split(" ")) {
            open.add(one.substring(0, one.indexOf('(')));
        }
        for (Method m : c.getDeclaredMethods()) {
            expect.fails(m + " bears the name of a public one", open.contains(m.getName()));
        }
        members(c);
    }

    private void members(Class<?> c) {
        int fields = 0;
        for (Field f : c.getDeclaredFields()) {
            if (Modifier.isStatic(f.getModifiers())) {
                expect.holds(f + " is final", Modifier.isFinal(f.getModifiers()));
                expect.holds(f + " is a constant",
                        f.getType().isPrimitive() || f.getType() == String.class);
            } else {
                fields++;
            }
        }
        expect.holds(c + " has some twenty fields: " + fields, fields <= 20);
        for (Method m : c.getDeclaredMethods()) {
            expect.holds(m + " takes at most seven", m.getParameterCount() <= 7);
            expect.fails(m + " is made by javac", m.isSynthetic());
        }
    }

    private void source(String text) {
        expect.fails("texts are joined by +", text.contains("\" +") || text.contains("+ \""));
        String bare = text.replaceAll("(?s)/\\*.*?\\*/", " ").replaceAll("//[^\n]*", " ")
                .replaceAll("'(\\\\.|[^'\\\\])'", "0").replaceAll("\"(\\\\.|[^\"\\\\])*\"", "0");
        for (String word : bare.split("[^A-Za-z0-9_]+")) {
            expect.fails("the word " + word, Arrays.asList(FORBIDDEN.split(" ")).contains(word));
        }
        library(bare);
        expect.fails("a lambda or a method reference", bare.contains("->") || bare.contains("::"));
        expect.fails("an annotation", bare.contains("@"));
        for (char c : text.toCharArray()) {
            if (c > 126) {
                expect.fails("the sign " + c, true);
            }
        }
        lengths(bare);
    }

    /** Rules 3 and 4: no class but its own and those listed, and of these only what is listed. */
    private void library(String bare) {
        TreeSet<String> known = new TreeSet<>(Arrays.asList("FreckleChart", "String", "Math",
                "Integer", "System"));
        for (Class<?> c : FreckleChart.class.getDeclaredClasses()) {
            known.add(c.getSimpleName());
        }
        Matcher name = Pattern.compile("\\b[A-Z][A-Za-z]*[a-z][A-Za-z]*\\b").matcher(bare);
        while (name.find()) {
            expect.holds("the class " + name.group(), known.contains(name.group()));
        }
        Matcher call = Pattern.compile("\\b(Math|Integer|System)\\s*\\.\\s*(\\w+)").matcher(bare);
        while (call.find()) {
            String called = call.group(2);
            boolean listed = call.group(1).equals("System") ? called.equals("arraycopy")
                    : !called.endsWith("Exact");
            expect.holds("the library's " + call.group(), listed);
        }
        Matcher made = Pattern.compile("\\bnew\\s+(\\w+)").matcher(bare);
        while (made.find()) {
            String type = made.group(1);
            expect.holds("new " + type, known.contains(type) || type.matches("int|long|byte"));
        }
    }

    /** How long each method is: from the line that opens it at depth 1 or 2 to the one that ends. */
    private void lengths(String bare) {
        int depth = 0;
        int began = -1;
        int beganDepth = 0;
        String[] lines = bare.split("\n");
        List<Integer> lengths = new ArrayList<>();
        for (int i = 0; i < lines.length; i++) {
            boolean opens = lines[i].contains("(") && lines[i].trim().endsWith("{");
            if (began < 0 && opens && depth >= 1 && depth <= 2) {
                began = i;
                beganDepth = depth;
            }
            for (char c : lines[i].toCharArray()) {
                depth += c == '{' ? 1 : c == '}' ? -1 : 0;
            }
            if (began >= 0 && depth == beganDepth) {
                lengths.add(i - began + 1);
                expect.holds("the method in line " + (began + 1) + " is short",
                        i - began + 1 <= 60);
                began = -1;
            }
        }
        expect.same("braces", depth, 0);
        expect.holds("methods were found", lengths.size() > 100);
    }

    /** What is made: a chart is small, and its calls make nothing. */
    private void room() {
        com.sun.management.ThreadMXBean meter =
                (com.sun.management.ThreadMXBean) ManagementFactory.getThreadMXBean();
        FreckleChart warm = busy();
        long before = meter.getCurrentThreadAllocatedBytes();
        FreckleChart x = new FreckleChart();
        long made = meter.getCurrentThreadAllocatedBytes() - before;
        expect.holds("a chart is small: " + made + " bytes", made < 40_000);
        expect.same("alike", x.many(0), warm.many(0) - 1);
        long most = 0;
        for (int i = 0; i < 20; i++) {
            before = meter.getCurrentThreadAllocatedBytes();
            work(warm);
            most = Math.max(most, meter.getCurrentThreadAllocatedBytes() - before);
        }
        expect.holds("calls make nothing: " + most + " bytes", most < 400);
    }

    private static FreckleChart busy() {
        FreckleChart x = Texts.chart("coast 6 by 5; rock 7 deep 3; rock 8 deep 9; rock 20 deep 0;"
                + "cousin a at 0 wide 6 high 5 tan 4; cousin b at 7 wide 2 high 2 tan 5;"
                + "cousin c at 0 wide 6 high 5; cousin d at 0 wide 3 high 5 inked 0 1 2;",
                "loop 9; any; sail a 0 29 3; rain 1; sun b 1; end;");
        x.tray(0, 0, 60);
        x.mark();
        x.back();
        work(x);
        return x;
    }

    private static void work(FreckleChart x) {
        x.mark();
        x.tray(1, 0, 60);
        x.pour(0, 0, 1, 0, 60);
        x.copyTan(0);
        x.feed(0x6F646473, 0x20333B20, 0x20202020, 0x20202020, 0x20202020);
        x.years(20);
        x.live(7);
        x.mean(1, 20);
        x.fewest(0, 29, 3);
        x.wayAt(7, 0, 29, 3);
        x.game(4);
        x.moveOf(4);
        x.infant(0, 1, 2);
        x.fades(0, 2);
        x.ask(2, 2);
        x.fitsAt(0, 2, 2, 2, 0);
        x.coverSet();
        x.back();
    }
}
