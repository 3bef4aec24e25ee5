import java.lang.reflect.Method;
import java.util.ArrayList;
import java.util.Comparator;
import java.util.List;
import java.util.Map;
import java.util.TreeMap;
import java.util.TreeSet;

/**
 * Runs of calls by draws, on the program and on the document's plainest form beside it: each
 * answer, STATUS and FRACTION must be the same. Every STATUS and FAULT that there is must come up.
 */
final class ModelTest {
    private static final int RUNS = 6000;
    // The document promises 512; a call and what is asked behind it may take four.
    private static final int MOST_CALLS = 508;
    /** What STATUS beside 0 each call can have by its promise. */
    private static final String STATUSES = "tray:1,5,6 write:1,3,4 read:1,3,4 pour:1,3,4,6,11"
            + " coast:5,10 years:5,10 many:5 rock:2,5 deep:2,8 cousin:2,5 shown:2 copyTan:1,3,4"
            + " sun:2,5,9 rain:5 veil:2,9 ink:2,7,9 wash:2,9 wreck:2,5,7,9 sail:2,5,8 born:2,5,7"
            + " rule:5 charted:5 open:5 way:2,5,8 wayAt:2,5,8 strikes:2,5,8 fewest:2,5,8"
            + " fewestSet:2,5,8 deepest:2,5,8 wants:2,9 forged:2 parted:2,5 cover:8 coverSet:8"
            + " fits:1,3,4,5 fitsAt:1,3,4,5,8 ask:5,8 game:5 moveOf:5,8 infant:2,5 fades:2,5"
            + " freckled:2 live:5,8 lived:5,8 mean:5,8 mark:7 back:8";

    private final Expect expect = new Expect();
    private final Map<String, Method> calls = new TreeMap<>();
    private final Map<String, Method> plainCalls = new TreeMap<>();
    private final Map<String, TreeSet<Integer>> seen = new TreeMap<>();
    private final Map<String, TreeSet<Integer>> faults = new TreeMap<>();
    private final List<String> names = new ArrayList<>();

    private FreckleChart chart;
    private PlainChart plain;
    private Draws d;
    private List<String> log;
    private int called;

    public static void main(String[] args) throws ReflectiveOperationException {
        ModelTest test = new ModelTest();
        test.collect();
        for (int run = 0; run < RUNS && !test.expect.isWrong(); run++) {
            test.run(run);
        }
        if (!test.expect.isWrong()) {
            test.checkStatuses();
            test.checkFaults();
        }
        test.expect.end("ModelTest");
    }

    private void collect() throws ReflectiveOperationException {
        for (Method m : FreckleChart.class.getDeclaredMethods()) {
            if (java.lang.reflect.Modifier.isPublic(m.getModifiers())) {
                calls.put(m.getName(), m);
                plainCalls.put(m.getName(),
                        PlainChart.class.getDeclaredMethod(m.getName(), m.getParameterTypes()));
                names.add(m.getName());
                seen.put(m.getName(), new TreeSet<>());
            }
        }
        names.sort(Comparator.naturalOrder());
        expect.same("how many methods the face has", names.size(), 52);
    }

    private void run(int number) throws ReflectiveOperationException {
        d = new Draws(number);
        chart = new FreckleChart();
        plain = new PlainChart();
        log = new ArrayList<>();
        called = 0;
        if (number % 10 != 0) {
            text("coast", Texts.drawnCoast(d));
        }
        if (number % 3 != 0) {
            text("years", Texts.drawnYears(d, plain.cells(), plain.cousins()));
        }
        while (called < MOST_CALLS && !expect.isWrong()) {
            String name = names.get(d.below(names.size()));
            if (name.equals("coast") && d.oneIn(6)) {
                String text = Texts.drawnCoast(d);
                text(name, d.oneIn(2) ? Texts.spoilt(d, text) : text);
            } else if (name.equals("years") && !d.oneIn(4)) {
                String text = Texts.drawnYears(d, plain.cells(), plain.cousins());
                text(name, d.oneIn(2) ? Texts.spoilt(d, text) : text);
            } else if (!name.equals("feed") && !name.equals("coast") || d.oneIn(4)) {
                call(name, drawnArguments(calls.get(name), name));
            }
        }
        if (expect.isWrong()) {
            for (String line : log) {
                System.out.println("  " + line);
            }
            System.out.println("in run " + number);
        }
    }

    private void text(String name, String text) throws ReflectiveOperationException {
        if (called + text.length() / 20 + 20 > MOST_CALLS) {
            // There are too few calls left for the text.
            call("mark");
            return;
        }
        if (plain.taped() > 0) {
            call("coast", plain.taped());
        }
        String fed = text.length() > 900 ? text.substring(0, 900) : text;
        for (int[] f : Texts.feeds(fed)) {
            call("feed", f[0], f[1], f[2], f[3], f[4]);
        }
        log.add(fed);
        call(name, fed.length());
        if (plain.status() != 5) {
            faults.computeIfAbsent(name, key -> new TreeSet<>()).add(plain.fault(0));
        }
        call("fault", 0);
        call("fault", 1);
    }

    private Object[] drawnArguments(Method m, String name) {
        Class<?>[] types = m.getParameterTypes();
        Object[] arguments = new Object[types.length];
        for (int i = 0; i < types.length; i++) {
            if (types[i] == boolean.class) {
                arguments[i] = d.oneIn(2);
            } else if (types[i] == long.class) {
                arguments[i] = d.oneIn(3) ? d.any() : (long) d.from(-2, 20);
            } else {
                arguments[i] = d.oneIn(60) ? extreme() : drawnInt(name, i);
            }
        }
        return arguments;
    }

    private int extreme() {
        int[] extremes = {Integer.MIN_VALUE, Integer.MAX_VALUE, -1, 0, 1 << 30, 64, 61, 900, 10000};
        return extremes[d.below(extremes.length)];
    }

    /** Mostly one that can be: t a TRAY, c a CELL, k a COUSIN, s a set, and so on. */
    private int drawnInt(String name, int i) {
        String sorts = Map.ofEntries(Map.entry("tray", "tsm"), Map.entry("write", "tp"),
                Map.entry("read", "tp"), Map.entry("pour", "tptpp"), Map.entry("feed", "bbbbb"),
                Map.entry("rock", "p1"), Map.entry("deep", "c"), Map.entry("cousin", "kp"),
                Map.entry("shown", "k"), Map.entry("copyTan", "t"), Map.entry("sun", "kd"),
                Map.entry("rain", "d"), Map.entry("veil", "k"), Map.entry("ink", "kc"),
                Map.entry("wash", "k"), Map.entry("wreck", "cd"), Map.entry("sail", "gccd"),
                Map.entry("born", "c66"), Map.entry("rule", "p"), Map.entry("charted", "g"),
                Map.entry("open", "g"), Map.entry("way", "gcc"), Map.entry("wayAt", "gccp"),
                Map.entry("strikes", "gccd"), Map.entry("fewest", "ccd"),
                Map.entry("fewestSet", "ccd"), Map.entry("deepest", "gcc"), Map.entry("wants", "k"),
                Map.entry("forged", "k"), Map.entry("parted", "kk"), Map.entry("fits", "tf66"),
                Map.entry("fitsAt", "tf66f"), Map.entry("ask", "66"), Map.entry("game", "4"),
                Map.entry("moveOf", "4"), Map.entry("infant", "kkp"), Map.entry("fades", "kp"),
                Map.entry("freckled", "k"), Map.entry("live", "y"), Map.entry("mean", "yz"))
                .getOrDefault(name, "pppp");
        switch (sorts.charAt(i)) {
            case 't':
                return d.oneIn(12) ? d.from(-1, 4) : d.below(4);
            case 's':
                return d.oneIn(12) ? d.from(-1, 4) : d.oneIn(2) ? 3 : d.below(4);
            case 'm':
                return d.oneIn(12) ? d.from(-1, 61) : d.below(12);
            case 'c':
                return d.oneIn(12) ? d.from(-1, 31) : d.below(plain.cells());
            case 'k':
                return d.oneIn(12) ? d.from(-1, 6) : d.below(Math.max(1, plain.cousins()));
            case 'g':
                return d.oneIn(12) ? d.from(-1, 64) : d.below(1 << plain.cousins());
            case 'd':
                return d.from(0, 11);
            case 'f':
                return d.oneIn(12) ? d.from(-1, 22) : d.below(3);
            case '6':
                return d.oneIn(12) ? d.from(-1, 7) : d.from(1, 3);
            case '4':
                return d.oneIn(5) ? d.from(-1, 5) : d.below(4);
            case '1':
                return d.from(-1, 2);
            case 'y':
                return d.oneIn(9) ? d.from(9980, 10001) : d.from(-1, 9999);
            case 'z':
                return d.oneIn(9) ? d.from(-1, 22) : d.from(1, 4);
            case 'b':
                return (int) d.any();
            default:
                return d.from(-1, 18);
        }
    }

    private void call(String name, Object... arguments) throws ReflectiveOperationException {
        Object due = plainCalls.get(name).invoke(plain, arguments);
        Object got = calls.get(name).invoke(chart, arguments);
        log.add(name + java.util.Arrays.toString(arguments) + " due " + due + ", " + plain.status());
        String what = log.get(log.size() - 1);
        expect.same(what, number(got), number(due));
        called++;
        if (name.equals("feed")) {
            return;
        }
        called += 3;
        expect.same(what + ", STATUS", chart.status(), plain.status());
        expect.same(what + ", top()", chart.top(), plain.top());
        expect.same(what + ", bottom()", chart.bottom(), plain.bottom());
        if (!name.equals("status") && !name.equals("fault")) {
            seen.get(name).add(plain.status());
        }
    }

    private static long number(Object answer) {
        if (answer instanceof Boolean) {
            return (Boolean) answer ? 1 : 0;
        }
        return ((Number) answer).longValue();
    }

    private void checkFaults() {
        expect.holds("coast() had each FAULT: " + faults.get("coast"),
                faults.get("coast").equals(new TreeSet<>(List.of(0, 1, 2, 3, 4, 5, 6))));
        expect.holds("years() had each FAULT: " + faults.get("years"),
                faults.get("years").equals(new TreeSet<>(List.of(0, 1, 2, 3, 4, 6, 7))));
    }

    private void checkStatuses() {
        for (String of : STATUSES.split(" ")) {
            String name = of.substring(0, of.indexOf(':'));
            TreeSet<Integer> due = new TreeSet<>(List.of(0));
            for (String status : of.substring(of.indexOf(':') + 1).split(",")) {
                due.add(Integer.parseInt(status));
            }
            if (!seen.get(name).equals(due)) {
                System.out.println(name + " had " + seen.get(name) + ", its promise names " + due);
            }
            expect.holds(name + " had each STATUS, and no other", seen.get(name).equals(due));
        }
    }
}
