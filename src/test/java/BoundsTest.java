import java.io.IOException;
import java.lang.reflect.InvocationTargetException;
import java.lang.reflect.Method;
import java.nio.file.Files;
import java.nio.file.Path;
import java.util.Arrays;
import java.util.Comparator;
import java.util.TreeMap;
import java.util.TreeSet;

/**
 * Each sentence of the document that names a boundary case, by a test of its own: runs all methods
 * that bear a Sentence. Its words must stand in the document, each promise must have such a test,
 * and each STATUS that a promise names in brackets must have been answered by a refused call.
 */
final class BoundsTest {
    private static final int PROMISES = 53;
    private static final String STATUSES = "5:1,5,6 6:1,3,4 7:1,3,4 8:1,3,11,6,4 10:5,10 11:5,10 13:5"
            + " 14:2,5 15:2,8 16:2,5 17:2 18:1,3,4 19:2,5,9 20:5 21:2,9 22:2,7,9 23:2,9 24:2,5,7,9"
            + " 25:2,5,8 26:2,5,7 27:5 28:5 29:5 30:2,5,8 31:2,5,8 32:2,5,8 33:2,5,8 34:2,5,8"
            + " 35:2,5,8 36:2,9 37:2 38:2,5 39:8 40:8 41:1,3,4,5 42:1,3,4,5,8 43:5,8 44:5 45:5,8"
            + " 46:2,5 47:2,5 48:2 49:5,8 50:5,8 51:5,8 52:7 53:8";

    private final Expect expect = new Expect();
    private final TreeMap<Integer, TreeSet<Integer>> refused = new TreeMap<>();
    private final TreeMap<Integer, String> sections = new TreeMap<>();
    private final TreeSet<Integer> asked = new TreeSet<>();
    private String terms;

    public static void main(String[] args) throws IOException, ReflectiveOperationException {
        BoundsTest t = new BoundsTest();
        t.readDocument(Files.readString(Path.of("../shared/DOC.md")));
        Bounds[] all = {new BoundsOfANewObject(), new BoundsOfTrays(), new BoundsOfTapes(),
            new BoundsOfCoasts(), new BoundsOfCoastFaults(), new BoundsOfYears(),
            new BoundsOfLooks(), new BoundsOfDeeds(), new BoundsOfWays(), new BoundsOfSpots(),
            new BoundsOfWhatWasSeen(), new BoundsOfGames(), new BoundsOfLives(),
            new BoundsOfMarks()};
        for (Bounds tests : all) {
            t.runAll(tests);
        }
        t.checkPromises();
        t.expect.end("BoundsTest");
    }

    private static String inOneLine(String text) {
        return text.replaceAll("\\s+", " ");
    }

    private void readDocument(String document) {
        int end = document.indexOf("## Promise 1:");
        terms = inOneLine(document.substring(0, end));
        String[] parts = document.substring(end, document.indexOf("## Not promised"))
                .split("## Promise ");
        for (String part : parts) {
            if (!part.isBlank()) {
                int number = Integer.parseInt(part.substring(0, part.indexOf(':')));
                sections.put(number, inOneLine(part));
            }
        }
        expect.same("how many promises there are", sections.size(), PROMISES);
    }

    private void runAll(Bounds tests) throws ReflectiveOperationException {
        Method[] methods = tests.getClass().getDeclaredMethods();
        Arrays.sort(methods, Comparator.comparing(Method::getName));
        for (Method method : methods) {
            Sentence sentence = method.getAnnotation(Sentence.class);
            if (sentence != null) {
                run(tests, method, sentence);
            }
        }
    }

    private void run(Bounds tests, Method test, Sentence sentence)
            throws ReflectiveOperationException {
        int promise = sentence.promise();
        String title = "promise " + promise + ", \"" + sentence.words() + "\" ("
                + test.getName() + ")";
        String words = inOneLine(sentence.words());
        boolean stands = terms.contains(words)
                || sections.getOrDefault(promise, "").contains(words);
        expect.holds(title + ": the words stand in the document", stands);
        asked.add(promise);
        int before = expect.asked();
        tests.begin(expect, this, promise, title);
        try {
            test.setAccessible(true);
            test.invoke(tests);
        } catch (InvocationTargetException thrown) {
            expect.fails(title + ": threw " + thrown.getCause(), true);
        }
        expect.holds(title + ": something was asked", expect.asked() > before);
    }

    /** Keeps that a call of a promise was refused with a STATUS. */
    void refused(int promise, int status) {
        refused.computeIfAbsent(promise, key -> new TreeSet<>()).add(status);
    }

    private void checkPromises() {
        for (int promise = 1; promise <= PROMISES; promise++) {
            expect.holds("promise " + promise + " has a test", asked.contains(promise));
        }
        for (String one : STATUSES.split(" ")) {
            int promise = Integer.parseInt(one.substring(0, one.indexOf(':')));
            for (String status : one.substring(one.indexOf(':') + 1).split(",")) {
                boolean was = refused.getOrDefault(promise, new TreeSet<>())
                        .contains(Integer.parseInt(status));
                expect.holds("promise " + promise + " was refused with " + status, was);
            }
        }
    }
}
