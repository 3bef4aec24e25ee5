import java.math.BigInteger;
import java.util.ArrayList;
import java.util.Arrays;
import java.util.Collections;
import java.util.HashSet;
import java.util.List;
import java.util.Set;
import java.util.TreeSet;
import java.util.regex.Matcher;
import java.util.regex.Pattern;

/**
 * The document once more, in the plainest Java that there is: lists, sets, exceptions, copies of
 * everything. ModelTest holds the program against it.
 */
final class PlainChart {
    private static final Set<String> KEYWORDS = new HashSet<>(Arrays.asList(
            "coast", "by", "odds", "rock", "deep", "cousin", "at", "wide", "high", "tan", "veiled",
            "inked", "sun", "rain", "veil", "bare", "ink", "wash", "sail", "any", "when", "shows",
            "loop", "end", "stop"));

    private static final class Refused extends RuntimeException {
        private static final long serialVersionUID = 1;
        final int status;

        Refused(int status) {
            this.status = status;
        }
    }

    private static final class Fault extends RuntimeException {
        private static final long serialVersionUID = 1;
        final int kind;
        final int place;

        Fault(int kind, int place) {
            this.kind = kind;
            this.place = place;
        }
    }

    private static final class YearsOver extends RuntimeException {
        private static final long serialVersionUID = 1;
    }

    private record Rock(int cell, int depth) { }

    private static final class Cousin {
        String name;
        int cell;
        int wide;
        int high;
        int tan;
        boolean veiled;
        Set<Integer> ink = new TreeSet<>();

        Cousin copy() {
            Cousin c = new Cousin();
            c.name = name;
            c.cell = cell;
            c.wide = wide;
            c.high = high;
            c.tan = tan;
            c.veiled = veiled;
            c.ink.addAll(ink);
            return c;
        }
    }

    private record Step(String word, String test, int cousin, String sign, List<Integer> numbers,
            List<Step> body) { }

    private static final class Coast {
        int wide = 5;
        int high = 4;
        int odds = 8;
        List<Rock> rocks = new ArrayList<>();
        List<Cousin> cousins = new ArrayList<>();
        int struck;
        int in;
        List<Step> years;
        int steps;

        Coast copy() {
            Coast c = new Coast();
            c.wide = wide;
            c.high = high;
            c.odds = odds;
            c.rocks.addAll(rocks);
            for (Cousin cousin : cousins) {
                c.cousins.add(cousin.copy());
            }
            c.struck = struck;
            c.in = in;
            c.years = years;
            c.steps = steps;
            return c;
        }

        Integer depth(int cell) {
            for (Rock r : rocks) {
                if (r.cell() == cell) {
                    return r.depth();
                }
            }
            return null;
        }

        Set<Integer> patch(Cousin c) {
            return patch(c.cell, c.wide, c.high);
        }

        Set<Integer> patch(int cell, int w, int h) {
            Set<Integer> set = new TreeSet<>();
            for (int y = 0; y < high; y++) {
                for (int x = 0; x < wide; x++) {
                    int dx = x - cell % wide;
                    int dy = y - cell / wide;
                    if (dx >= 0 && dx < w && dy >= 0 && dy < h) {
                        set.add(y * wide + x);
                    }
                }
            }
            return set;
        }

        boolean canBegin(int cell, long w, long h) {
            return w > 0 && h > 0 && cell % wide + w <= wide && cell / wide + h <= high;
        }

        boolean shows(Cousin c, int cell) {
            if (c.veiled || !patch(c).contains(cell)) {
                return false;
            }
            Integer depth = depth(cell);
            return c.ink.contains(cell) || depth != null && depth < c.tan;
        }

        Set<Integer> shown(Cousin c) {
            Set<Integer> set = new TreeSet<>();
            for (int cell = 0; cell < wide * high; cell++) {
                if (shows(c, cell)) {
                    set.add(cell);
                }
            }
            return set;
        }

        List<Cousin> those(int set) {
            List<Cousin> list = new ArrayList<>();
            for (int i = 0; i < cousins.size(); i++) {
                if ((set >> i) % 2 == 1) {
                    list.add(cousins.get(i));
                }
            }
            return list;
        }

        Set<Integer> charted(int set) {
            Set<Integer> cells = new TreeSet<>();
            for (Cousin c : those(set)) {
                if (!c.veiled) {
                    cells.addAll(patch(c));
                }
            }
            return cells;
        }

        Set<Integer> open(int set) {
            Set<Integer> cells = charted(set);
            for (Cousin c : those(set)) {
                cells.removeAll(shown(c));
            }
            return cells;
        }

        boolean beside(int a, int b) {
            return Math.abs(a % wide - b % wide) + Math.abs(a / wide - b / wide) == 1;
        }

        /** The least of the shortest ways, null without one: grows all least ways, ring by ring. */
        List<Integer> way(int set, int from, int to) {
            Set<Integer> open = open(set);
            if (!open.contains(from) || !open.contains(to)) {
                return null;
            }
            Set<Integer> seen = new HashSet<>();
            List<List<Integer>> ways = new ArrayList<>();
            ways.add(List.of(from));
            seen.add(from);
            while (!ways.isEmpty()) {
                for (List<Integer> way : ways) {
                    if (way.get(way.size() - 1) == to) {
                        return way;
                    }
                }
                // Ways of a ring stand in the order of their cells, so the first to a cell is least.
                List<List<Integer>> longer = new ArrayList<>();
                Set<Integer> reached = new HashSet<>();
                for (List<Integer> way : ways) {
                    for (int cell : open) {
                        if (beside(way.get(way.size() - 1), cell) && !seen.contains(cell)
                                && reached.add(cell)) {
                            List<Integer> one = new ArrayList<>(way);
                            one.add(cell);
                            longer.add(one);
                        }
                    }
                }
                seen.addAll(reached);
                ways = longer;
            }
            return null;
        }

        int strike(List<Integer> way, int draft) {
            for (int cell : way) {
                Integer depth = depth(cell);
                if (depth != null && depth < draft) {
                    return cell;
                }
            }
            return -1;
        }

        boolean sunOn(Cousin c, int much) {
            if (c.veiled || c.tan == 9) {
                return false;
            }
            c.tan = Math.min(9, c.tan + much);
            return true;
        }

        int rainBy(int much) {
            int paler = 0;
            for (Cousin c : cousins) {
                if (!c.veiled && c.tan > 0) {
                    c.tan = Math.max(0, c.tan - much);
                    paler++;
                }
            }
            return paler;
        }
    }

    private int status;
    private BigInteger top = BigInteger.ZERO;
    private BigInteger bottom = BigInteger.ONE;
    private final long[][] trays = new long[4][];
    private final int[] sorts = new int[4];
    private StringBuilder tape = new StringBuilder();
    private int fault = -1;
    private int faultPlace = -1;
    private Coast coast = new Coast();
    private final List<Coast> marks = new ArrayList<>();
    private int[] lived;

    private interface IntCall {
        int run();
    }

    private interface VoidCall {
        void run();
    }

    private int answer(IntCall call) {
        try {
            int a = call.run();
            status = 0;
            return a;
        } catch (Refused r) {
            status = r.status;
            return -1;
        }
    }

    private boolean act(VoidCall call) {
        try {
            call.run();
            status = 0;
            return true;
        } catch (Refused r) {
            status = r.status;
            return false;
        }
    }

    /** How many cells there are; asking is no call. */
    int cells() {
        return coast.wide * coast.high;
    }

    /** How many cousins there are; asking is no call. */
    int cousins() {
        return coast.cousins.size();
    }

    /** How many bytes are on the tape; asking is no call. */
    int taped() {
        return tape.length();
    }

    private static void check(int status, boolean ok) {
        if (!ok) {
            throw new Refused(status);
        }
    }

    private static int bits(Set<Integer> set) {
        int bits = 0;
        for (int i : set) {
            bits += (int) Math.pow(2, i);
        }
        return bits;
    }

    private void cell(int cell) {
        check(2, cell >= 0 && cell < coast.wide * coast.high);
    }

    private Cousin who(int cousin) {
        check(2, cousin >= 0 && cousin < coast.cousins.size());
        return coast.cousins.get(cousin);
    }

    private static void range(int n, int least, int most) {
        check(5, n >= least && n <= most);
    }

    private void set(int set) {
        check(5, set >= 0 && set < Math.pow(2, coast.cousins.size()));
    }

    private void fraction(BigInteger a, BigInteger b) {
        BigInteger d = a.gcd(b);
        top = a.divide(d);
        bottom = b.divide(d);
    }

    public int status() {
        return status;
    }

    public long top() {
        return top.longValueExact();
    }

    public long bottom() {
        return bottom.longValueExact();
    }

    public boolean tray(int tray, int sort, int many) {
        return act(() -> {
            check(1, tray >= 0 && tray <= 3 && sort >= 0 && sort <= 3);
            check(5, many <= 60);
            check(6, many >= 0);
            trays[tray] = new long[many];
            sorts[tray] = sort;
        });
    }

    private void place(int tray, int place) {
        check(1, tray >= 0 && tray <= 3);
        check(3, trays[tray] != null);
        check(4, place >= 0 && place < trays[tray].length);
    }

    private static long cut(long v, int sort) {
        return new BigInteger(Long.toString(v)).shiftLeft(64 - (8 << sort)).longValue()
                >> 64 - (8 << sort);
    }

    public boolean write(int tray, int place, long v) {
        return act(() -> {
            place(tray, place);
            trays[tray][place] = cut(v, sorts[tray]);
        });
    }

    public long read(int tray, int place) {
        return act(() -> place(tray, place)) ? trays[tray][place] : -1;
    }

    public boolean pour(int tray, int i, int to, int j, int many) {
        return act(() -> {
            check(1, tray >= 0 && tray <= 3 && to >= 0 && to <= 3);
            check(3, trays[tray] != null && trays[to] != null);
            check(11, sorts[tray] == sorts[to]);
            check(6, many >= 0);
            check(4, i >= 0 && (long) i + many <= trays[tray].length);
            check(4, j >= 0 && (long) j + many <= trays[to].length);
            long[] from = trays[tray].clone();
            for (int k = 0; k < many; k++) {
                trays[to][j + k] = from[i + k];
            }
        });
    }

    public int feed(int a, int b, int c, int d, int e) {
        if (tape.length() + 20 > 900) {
            return -1;
        }
        for (int word : new int[] {a, b, c, d, e}) {
            for (int i = 3; i >= 0; i--) {
                tape.append((char) (word >>> 8 * i & 255));
            }
        }
        return tape.length();
    }

    // ---- the texts

    private record Token(char sort, String text, int place) { }

    private final class Parser {
        final List<Token> tokens = new ArrayList<>();
        int next = 0;

        Parser(String text) {
            Matcher m = Pattern.compile("[ \n]+|([a-z]+)|([0-9]+)|([;<>=])|([\\s\\S])").matcher(text);
            while (m.find()) {
                if (m.group(1) != null) {
                    tokens.add(new Token('w', m.group(), m.start()));
                } else if (m.group(2) != null) {
                    tokens.add(new Token(m.group().length() > 4 ? '?' : 'n', m.group(), m.start()));
                } else if (m.group(3) != null) {
                    tokens.add(new Token('s', m.group(), m.start()));
                } else if (m.group(4) != null) {
                    tokens.add(new Token('?', m.group(), m.start()));
                }
            }
            tokens.add(new Token('e', "", text.length()));
        }

        Token here() {
            return tokens.get(next);
        }

        Fault fail(int kind) {
            return new Fault(here().sort() == '?' ? 1 : kind, here().place());
        }

        boolean is(String text) {
            return here().text().equals(text) && here().sort() != '?';
        }

        boolean ended() {
            return here().sort() == 'e';
        }

        boolean take(String text) {
            if (is(text)) {
                next++;
                return true;
            }
            return false;
        }

        void must(String text) {
            if (!take(text)) {
                throw fail(2);
            }
        }

        int peekNumber(int least, int most) {
            if (here().sort() != 'n') {
                throw fail(2);
            }
            int n = Integer.parseInt(here().text());
            if (n < least || n > most) {
                throw fail(4);
            }
            return n;
        }

        int number(int least, int most) {
            int n = peekNumber(least, most);
            next++;
            return n;
        }

        String peekName() {
            String text = here().text();
            if (here().sort() != 'w' || text.length() > 8 || KEYWORDS.contains(text)) {
                throw fail(2);
            }
            return text;
        }

        Coast coastText() {
            Coast c = new Coast();
            boolean sized = false;
            boolean ruled = false;
            while (!ended()) {
                if (is("coast")) {
                    if (sized || !c.rocks.isEmpty() || !c.cousins.isEmpty()) {
                        throw fail(5);
                    }
                    sized = true;
                    next++;
                    c.wide = number(1, 6);
                    must("by");
                    c.high = number(1, 5);
                } else if (is("odds")) {
                    if (ruled) {
                        throw fail(5);
                    }
                    ruled = true;
                    next++;
                    c.odds = number(0, 16);
                } else if (is("rock")) {
                    if (c.rocks.size() == 15) {
                        throw fail(6);
                    }
                    next++;
                    int cell = peekNumber(0, c.wide * c.high - 1);
                    if (c.depth(cell) != null) {
                        throw fail(5);
                    }
                    next++;
                    must("deep");
                    c.rocks.add(new Rock(cell, number(0, 9)));
                } else if (is("cousin")) {
                    cousin(c);
                } else {
                    throw fail(2);
                }
                must(";");
            }
            return c;
        }

        void cousin(Coast c) {
            if (c.cousins.size() == 6) {
                throw fail(6);
            }
            next++;
            Cousin k = new Cousin();
            k.name = peekName();
            for (Cousin other : c.cousins) {
                if (other.name.equals(k.name)) {
                    throw fail(3);
                }
            }
            next++;
            must("at");
            k.cell = number(0, c.wide * c.high - 1);
            must("wide");
            k.wide = number(1, c.wide - k.cell % c.wide);
            must("high");
            k.high = number(1, c.high - k.cell / c.wide);
            if (take("tan")) {
                k.tan = number(0, 9);
            }
            k.veiled = take("veiled");
            if (take("inked")) {
                while (here().sort() == 'n') {
                    int cell = peekNumber(0, 9999);
                    if (!c.patch(k).contains(cell)) {
                        throw fail(4);
                    }
                    if (k.ink.contains(cell)) {
                        throw fail(5);
                    }
                    if (k.ink.size() == 6) {
                        throw fail(6);
                    }
                    k.ink.add(cell);
                    next++;
                }
            }
            c.cousins.add(k);
        }

        int steps;

        List<Step> yearsText(int nested) {
            List<Step> list = new ArrayList<>();
            while (!ended() && !(nested > 0 && is("end"))) {
                list.add(step(nested));
                must(";");
            }
            return list;
        }

        int someone() {
            String name = peekName();
            for (int i = 0; i < coast.cousins.size(); i++) {
                if (name.equals(coast.cousins.get(i).name)) {
                    next++;
                    return i;
                }
            }
            throw fail(3);
        }

        Step step(int nested) {
            String word = here().text();
            if (here().sort() != 'w' || !Arrays.asList("sun", "rain", "veil", "bare", "ink", "wash",
                    "sail", "any", "when", "loop", "stop").contains(word)) {
                throw fail(2);
            }
            if (steps == 30) {
                throw fail(6);
            }
            boolean block = word.equals("when") || word.equals("loop");
            if (block && nested == 3) {
                throw fail(7);
            }
            steps++;
            next++;
            int cells = coast.wide * coast.high - 1;
            int cousin = -1;
            String test = "";
            String sign = "";
            List<Integer> numbers = new ArrayList<>();
            if (word.equals("when")) {
                test = here().text();
                if (!is("shows") && !is("tan") && !is("veiled")) {
                    throw fail(2);
                }
                next++;
                cousin = someone();
                if (test.equals("shows")) {
                    numbers.add(number(0, cells));
                } else if (test.equals("tan")) {
                    sign = here().text();
                    if (!is("<") && !is(">") && !is("=")) {
                        throw fail(2);
                    }
                    next++;
                    numbers.add(number(0, 9));
                }
            } else if (word.equals("loop")) {
                numbers.add(number(1, 99));
            } else if (word.equals("rain")) {
                numbers.add(number(1, 9));
            } else if (!word.equals("any") && !word.equals("stop")) {
                cousin = someone();
                if (word.equals("sun")) {
                    numbers.add(number(1, 9));
                } else if (word.equals("ink")) {
                    numbers.add(number(0, cells));
                } else if (word.equals("sail")) {
                    numbers.add(number(0, cells));
                    numbers.add(number(0, cells));
                    numbers.add(number(1, 10));
                }
            }
            List<Step> body = null;
            if (block) {
                must(";");
                body = yearsText(nested + 1);
                must("end");
            }
            return new Step(word, test, cousin, sign, numbers, body);
        }
    }

    private interface TextCall {
        void run(Parser parser);
    }

    private int text(int n, int most, TextCall call) {
        if (n < 0 || n > tape.length() || n > most) {
            status = 5;
            return -1;
        }
        Parser parser = new Parser(tape.substring(0, n));
        tape = new StringBuilder();
        try {
            call.run(parser);
            status = 0;
            fault = 0;
            faultPlace = -1;
            return 0;
        } catch (Fault f) {
            status = 10;
            fault = f.kind;
            faultPlace = f.place;
            return -1;
        }
    }

    public int coast(int n) {
        return text(n, 900, p -> coast = p.coastText()) < 0 ? -1 : coast.cousins.size();
    }

    public int years(int n) {
        return text(n, 300, p -> {
            List<Step> read = p.yearsText(0);
            coast.years = read;
            coast.steps = p.steps;
        }) < 0 ? -1 : coast.steps;
    }

    public int fault(int what) {
        return what == 0 ? fault : what == 1 ? faultPlace : -1;
    }

    public int many(int what) {
        return answer(() -> {
            range(what, 0, 8);
            int veiled = 0;
            for (int i = 0; i < coast.cousins.size(); i++) {
                veiled += coast.cousins.get(i).veiled ? 1 << i : 0;
            }
            return new int[] {coast.wide, coast.high, coast.rocks.size(), coast.cousins.size(),
                coast.odds, coast.struck, coast.in, veiled, bits(rockCells())}[what];
        });
    }

    private Set<Integer> rockCells() {
        Set<Integer> set = new TreeSet<>();
        for (Rock r : coast.rocks) {
            set.add(r.cell());
        }
        return set;
    }

    public int rock(int rock, int what) {
        return answer(() -> {
            check(2, rock >= 0 && rock < coast.rocks.size());
            range(what, 0, 1);
            return what == 0 ? coast.rocks.get(rock).cell() : coast.rocks.get(rock).depth();
        });
    }

    public int deep(int cell) {
        return answer(() -> {
            cell(cell);
            check(8, coast.depth(cell) != null);
            return coast.depth(cell);
        });
    }

    public int cousin(int cousin, int what) {
        return answer(() -> {
            Cousin c = who(cousin);
            range(what, 0, 6);
            return new int[] {c.cell, c.wide, c.high, c.tan, c.veiled ? 1 : 0, bits(c.ink),
                bits(coast.patch(c))}[what];
        });
    }

    public int shown(int cousin) {
        return answer(() -> bits(coast.shown(who(cousin))));
    }

    public int copyTan(int tray) {
        return answer(() -> {
            check(1, tray >= 0 && tray <= 3);
            check(3, trays[tray] != null);
            check(4, trays[tray].length >= coast.cousins.size());
            for (int i = 0; i < coast.cousins.size(); i++) {
                trays[tray][i] = coast.cousins.get(i).tan;
            }
            return coast.cousins.size();
        });
    }

    // ---- what is done

    public int sun(int cousin, int much) {
        return answer(() -> {
            Cousin c = who(cousin);
            range(much, 1, 9);
            check(9, coast.sunOn(c, much));
            return c.tan;
        });
    }

    public int rain(int much) {
        return answer(() -> {
            range(much, 1, 9);
            return coast.rainBy(much);
        });
    }

    public boolean veil(int cousin, boolean is) {
        return act(() -> {
            Cousin c = who(cousin);
            check(9, c.veiled != is);
            c.veiled = is;
        });
    }

    public int ink(int cousin, int cell) {
        return answer(() -> {
            Cousin c = who(cousin);
            cell(cell);
            check(7, c.ink.size() < 6);
            check(9, coast.patch(c).contains(cell) && !c.ink.contains(cell));
            c.ink.add(cell);
            return c.ink.size();
        });
    }

    public int wash(int cousin) {
        return answer(() -> {
            Cousin c = who(cousin);
            check(9, !c.ink.isEmpty());
            int were = c.ink.size();
            c.ink.clear();
            return were;
        });
    }

    public int wreck(int cell, int depth) {
        return answer(() -> {
            cell(cell);
            range(depth, 0, 9);
            check(7, coast.rocks.size() < 15);
            check(9, coast.depth(cell) == null);
            coast.rocks.add(new Rock(cell, depth));
            return coast.rocks.size() - 1;
        });
    }

    public int sail(int cousins, int from, int to, int draft) {
        return answer(() -> {
            List<Integer> way = findWay(cousins, from, to, draft);
            boolean in = coast.strike(way, draft) < 0;
            coast.in += in ? 1 : 0;
            coast.struck += in ? 0 : 1;
            return in ? 1 : 0;
        });
    }

    public int born(int cell, int wide, int high) {
        return answer(() -> {
            cell(cell);
            check(5, coast.canBegin(cell, wide, high));
            check(7, coast.cousins.size() < 6);
            Cousin c = new Cousin();
            c.name = "";
            c.cell = cell;
            c.wide = wide;
            c.high = high;
            coast.cousins.add(c);
            return coast.cousins.size() - 1;
        });
    }

    public boolean rule(int odds) {
        return act(() -> {
            range(odds, 0, 16);
            coast.odds = odds;
        });
    }

    // ---- charts and ways

    private List<Integer> findWay(int cousins, int from, int to, int draft) {
        cell(from);
        cell(to);
        set(cousins);
        range(draft, 1, 10);
        List<Integer> way = coast.way(cousins, from, to);
        check(8, way != null);
        return way;
    }

    public int charted(int cousins) {
        return answer(() -> {
            set(cousins);
            return bits(coast.charted(cousins));
        });
    }

    public int open(int cousins) {
        return answer(() -> {
            set(cousins);
            return bits(coast.open(cousins));
        });
    }

    public int way(int cousins, int from, int to) {
        return answer(() -> findWay(cousins, from, to, 1).size());
    }

    public int wayAt(int cousins, int from, int to, int k) {
        return answer(() -> {
            List<Integer> way = findWay(cousins, from, to, 1);
            check(8, k >= 0 && k < way.size());
            return way.get(k);
        });
    }

    public int strikes(int cousins, int from, int to, int draft) {
        return answer(() -> {
            int cell = coast.strike(findWay(cousins, from, to, draft), draft);
            check(8, cell >= 0);
            return cell;
        });
    }

    private int findFewest(int from, int to, int draft) {
        cell(from);
        cell(to);
        range(draft, 1, 10);
        for (int many = 0; many <= coast.cousins.size(); many++) {
            for (int set = 0; set < 1 << coast.cousins.size(); set++) {
                if (coast.those(set).size() == many) {
                    List<Integer> way = coast.way(set, from, to);
                    if (way != null && coast.strike(way, draft) < 0) {
                        return set;
                    }
                }
            }
        }
        throw new Refused(8);
    }

    public int fewest(int from, int to, int draft) {
        return answer(() -> coast.those(findFewest(from, to, draft)).size());
    }

    public int fewestSet(int from, int to, int draft) {
        return answer(() -> findFewest(from, to, draft));
    }

    public int deepest(int cousins, int from, int to) {
        return answer(() -> {
            int least = 10;
            for (int cell : findWay(cousins, from, to, 1)) {
                least = coast.depth(cell) == null ? least : Math.min(least, coast.depth(cell));
            }
            check(8, least > 0);
            return least;
        });
    }

    // ---- spots

    public int wants(int cousin) {
        return answer(() -> {
            Cousin c = who(cousin);
            int sun = 0;
            for (int cell : coast.patch(c)) {
                if (coast.depth(cell) != null) {
                    check(9, coast.depth(cell) < 9);
                    sun = Math.max(sun, coast.depth(cell) + 1 - c.tan);
                }
            }
            return sun;
        });
    }

    public int forged(int cousin) {
        return answer(() -> {
            int many = 0;
            for (int cell : who(cousin).ink) {
                many += coast.depth(cell) == null ? 1 : 0;
            }
            return many;
        });
    }

    public int parted(int cousin, int other) {
        return answer(() -> {
            Cousin a = who(cousin);
            Cousin b = who(other);
            check(5, a != b);
            Set<Integer> set = coast.patch(a);
            set.retainAll(coast.patch(b));
            set.removeIf(cell -> coast.shows(a, cell) == coast.shows(b, cell));
            return bits(set);
        });
    }

    private int findCover() {
        for (int many = 0; many <= coast.cousins.size(); many++) {
            for (int set = 0; set < 1 << coast.cousins.size(); set++) {
                Set<Integer> cells = new HashSet<>();
                for (Cousin c : coast.those(set)) {
                    cells.addAll(coast.patch(c));
                }
                if (coast.those(set).size() == many && cells.containsAll(rockCells())) {
                    return set;
                }
            }
        }
        throw new Refused(8);
    }

    public int cover() {
        return answer(() -> coast.those(findCover()).size());
    }

    public int coverSet() {
        return answer(this::findCover);
    }

    // ---- what was seen

    private List<Integer> begins(int wide, int high) {
        List<Integer> cells = new ArrayList<>();
        for (int cell = 0; cell < coast.wide * coast.high; cell++) {
            if (coast.canBegin(cell, wide, high)) {
                cells.add(cell);
            }
        }
        return cells;
    }

    private List<Integer> fitting(int tray, int n, int wide, int high) {
        check(1, tray >= 0 && tray <= 3);
        check(3, trays[tray] != null);
        check(4, n <= trays[tray].length);
        range(n, 0, 20);
        range(wide, 1, 6);
        range(high, 1, 5);
        Set<Integer> places = new TreeSet<>();
        for (int i = 0; i < n; i++) {
            check(5, trays[tray][i] >= 0 && trays[tray][i] < wide * high);
            places.add((int) trays[tray][i]);
        }
        List<Integer> cells = begins(wide, high);
        cells.removeIf(cell -> {
            Set<Integer> there = new TreeSet<>();
            int place = 0;
            for (int c : coast.patch(cell, wide, high)) {
                if (coast.depth(c) != null) {
                    there.add(place);
                }
                place++;
            }
            return !there.equals(places);
        });
        return cells;
    }

    public int fits(int tray, int n, int wide, int high) {
        return answer(() -> fitting(tray, n, wide, high).size());
    }

    public int fitsAt(int tray, int n, int wide, int high, int k) {
        return answer(() -> {
            List<Integer> cells = fitting(tray, n, wide, high);
            check(8, k >= 0 && k < cells.size());
            return cells.get(k);
        });
    }

    public int ask(int wide, int high) {
        return answer(() -> {
            range(wide, 1, 6);
            range(high, 1, 5);
            List<Integer> cells = begins(wide, high);
            check(8, cells.size() >= 2);
            List<Integer> worst = new ArrayList<>();
            for (int place = 0; place < wide * high; place++) {
                int with = 0;
                for (int cell : cells) {
                    int there = new ArrayList<>(coast.patch(cell, wide, high)).get(place);
                    with += coast.depth(there) != null ? 1 : 0;
                }
                worst.add(Math.max(with, cells.size() - with));
            }
            return worst.indexOf(Collections.min(worst));
        });
    }

    // ---- games, odds

    private int play(Coast c, int turns, boolean sun, int[] move) {
        if (turns == 0) {
            int many = 0;
            for (Rock r : c.rocks) {
                boolean shows = false;
                for (Cousin k : c.cousins) {
                    shows = shows || c.shows(k, r.cell());
                }
                many += shows ? 1 : 0;
            }
            return many;
        }
        int best = 0;
        move[0] = -2;
        for (int i = 0; i <= c.cousins.size(); i++) {
            Coast next = c.copy();
            if (i < c.cousins.size()) {
                Cousin k = next.cousins.get(i);
                if (k.veiled || k.tan == (sun ? 9 : 0)) {
                    continue;
                }
                k.tan = sun ? k.tan + 1 : Math.max(0, k.tan - 2);
            }
            int v = play(next, turns - 1, !sun, new int[1]);
            if (move[0] == -2 || (sun ? v > best : v < best)) {
                best = v;
                move[0] = i < c.cousins.size() ? i : -1;
            }
        }
        return best;
    }

    public int game(int turns) {
        return answer(() -> {
            range(turns, 0, 4);
            return play(coast, turns, true, new int[1]);
        });
    }

    public int moveOf(int turns) {
        return answer(() -> {
            range(turns, 1, 4);
            int[] move = new int[1];
            play(coast, turns, true, move);
            check(8, move[0] >= 0);
            return move[0];
        });
    }

    private void orMore(int many, int sixteenths, int k) {
        BigInteger good = BigInteger.ZERO;
        BigInteger choose = BigInteger.ONE;
        for (int j = 0; j <= many; j++) {
            if (j >= k) {
                good = good.add(choose.multiply(BigInteger.valueOf(sixteenths).pow(j))
                        .multiply(BigInteger.valueOf(16 - sixteenths).pow(many - j)));
            }
            choose = choose.multiply(BigInteger.valueOf(many - j)).divide(BigInteger.valueOf(j + 1));
        }
        fraction(good, BigInteger.valueOf(16).pow(many));
    }

    public boolean infant(int cousin, int other, int k) {
        return act(() -> {
            Cousin a = who(cousin);
            Cousin b = who(other);
            check(5, a != b);
            range(k, 0, 15);
            int both = 0;
            int one = 0;
            for (int cell : rockCells()) {
                boolean ofA = coast.patch(a).contains(cell);
                boolean ofB = coast.patch(b).contains(cell);
                both += ofA && ofB ? 1 : 0;
                one += ofA != ofB ? 1 : 0;
            }
            orMore(one, 8, k - both);
        });
    }

    public boolean fades(int cousin, int k) {
        return act(() -> {
            Cousin c = who(cousin);
            range(k, 0, 15);
            Set<Integer> cells = coast.shown(c);
            cells.retainAll(rockCells());
            orMore(cells.size(), coast.odds, k);
        });
    }

    public boolean freckled(int cousin) {
        return act(() -> {
            Cousin c = who(cousin);
            fraction(BigInteger.valueOf(coast.shown(c).size()),
                    BigInteger.valueOf(coast.patch(c).size()));
        });
    }

    // ---- YEARS

    private static final class Life {
        final Coast coast;
        long drawn;
        int steps;
        int missed;
        int struck;
        int in;
        int darker;
        int left;

        Life(Coast coast, int seed) {
            this.coast = coast;
            drawn = seed;
        }

        int draw(int n) {
            drawn = (drawn * 2971 + 10883) % 65536;
            return (int) (drawn / 8 % n);
        }

        void live() {
            try {
                all(coast.years);
            } catch (YearsOver over) {
                return;
            }
        }

        void all(List<Step> list) {
            for (Step s : list) {
                if (steps == 300) {
                    left = 1;
                    throw new YearsOver();
                }
                steps++;
                if (s.word().equals("stop")) {
                    throw new YearsOver();
                } else if (s.word().equals("loop")) {
                    for (int i = 0; i < s.numbers().get(0); i++) {
                        all(s.body());
                    }
                } else if (s.word().equals("when")) {
                    if (holds(s)) {
                        all(s.body());
                    }
                } else if (!done(s)) {
                    missed++;
                }
            }
        }

        boolean holds(Step s) {
            Cousin c = coast.cousins.get(s.cousin());
            if (s.test().equals("veiled")) {
                return c.veiled;
            }
            int n = s.numbers().get(0);
            if (s.test().equals("shows")) {
                return coast.shows(c, n);
            }
            return s.sign().equals("<") ? c.tan < n : s.sign().equals(">") ? c.tan > n : c.tan == n;
        }

        boolean sunOn(Cousin c, int much) {
            boolean can = coast.sunOn(c, much);
            darker += can ? 1 : 0;
            return can;
        }

        boolean done(Step s) {
            Cousin c = s.cousin() < 0 ? null : coast.cousins.get(s.cousin());
            List<Integer> n = s.numbers();
            switch (s.word()) {
                case "sun":
                    return sunOn(c, n.get(0));
                case "rain":
                    return coast.rainBy(n.get(0)) > 0;
                case "veil":
                case "bare":
                    boolean is = s.word().equals("veil");
                    boolean can = c.veiled != is;
                    c.veiled = is;
                    return can;
                case "ink":
                    return coast.patch(c).contains(n.get(0)) && c.ink.size() < 6
                            && c.ink.add(n.get(0));
                case "wash":
                    boolean had = !c.ink.isEmpty();
                    c.ink.clear();
                    return had;
                case "sail":
                    List<Integer> way = coast.way(1 << s.cousin(), n.get(0), n.get(1));
                    if (way == null) {
                        return false;
                    }
                    boolean comes = coast.strike(way, n.get(2)) < 0;
                    in += comes ? 1 : 0;
                    coast.in += comes ? 1 : 0;
                    struck += comes ? 0 : 1;
                    coast.struck += comes ? 0 : 1;
                    return true;
                default:
                    if (coast.cousins.isEmpty()) {
                        return false;
                    }
                    Cousin drawnOne = coast.cousins.get(draw(coast.cousins.size()));
                    if (draw(16) < coast.odds) {
                        return sunOn(drawnOne, 1);
                    }
                    drawnOne.veiled = !drawnOne.veiled;
                    return true;
            }
        }
    }

    public int live(int seed) {
        return answer(() -> {
            range(seed, 0, 9999);
            check(8, coast.years != null);
            Life life = new Life(coast, seed);
            life.live();
            lived = new int[] {life.missed, life.struck, life.in, life.darker, life.left};
            return life.steps;
        });
    }

    public int lived(int what) {
        return answer(() -> {
            range(what, 0, 4);
            check(8, lived != null);
            return lived[what];
        });
    }

    public boolean mean(int seed, int many) {
        return act(() -> {
            range(many, 1, 20);
            range(seed, 0, 9999);
            range(seed + many - 1, 0, 9999);
            check(8, coast.years != null);
            int sum = 0;
            for (int i = 0; i < many; i++) {
                Life life = new Life(coast.copy(), seed + i);
                life.live();
                for (Cousin c : life.coast.cousins) {
                    sum += c.tan;
                }
            }
            fraction(BigInteger.valueOf(sum), BigInteger.valueOf(many));
        });
    }

    public int mark() {
        return answer(() -> {
            check(7, marks.size() < 3);
            marks.add(coast.copy());
            return marks.size();
        });
    }

    public int back() {
        return answer(() -> {
            check(8, !marks.isEmpty());
            coast = marks.remove(marks.size() - 1);
            return marks.size();
        });
    }
}
