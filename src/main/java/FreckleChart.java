/**
 * A coast that is charted on the shoulders of one family. Rocks come out as freckles on the
 * cousins whose patch of the coast they lie in; ships go in by what shows on the pilots.
 *
 * <p>The document of the project says what each call promises. A set of cells or of cousins is
 * an int throughout: 1 for number 0, 2 for number 1, and so on.
 */
public final class FreckleChart {
    public static final int NONE = -1;

    // What status() tells of the latest call.
    private static final int DONE = 0;
    private static final int NO_TRAY = 1;
    private static final int NO_PART = 2;
    private static final int TRAY_MISSING = 3;
    private static final int NO_PLACE = 4;
    private static final int BAD_NUMBER = 5;
    private static final int BELOW_ZERO = 6;
    private static final int ONE_TOO_MANY = 7;
    private static final int NOT_THERE = 8;
    private static final int CANNOT_BE = 9;
    private static final int FAULTY = 10;
    private static final int UNLIKE_SORTS = 11;

    // What fault() tells of a text.
    private static final int NO_TOKEN_FAULT = 1;
    private static final int MISPLACED_FAULT = 2;
    private static final int NAME_FAULT = 3;
    private static final int NUMBER_FAULT = 4;
    private static final int TWICE_FAULT = 5;
    private static final int TOO_MANY_FAULT = 6;
    private static final int NESTED_FAULT = 7;

    private static final int MOST_TRAYS = 4;
    private static final int MOST_PLACES = 60;
    private static final int MOST_BYTES = 900;
    private static final int BYTES_A_FEED = 20;
    private static final int MOST_YEARS_BYTES = 300;
    private static final int MOST_WIDE = 6;
    private static final int MOST_HIGH = 5;
    private static final int MOST_CELLS = 30;
    private static final int MOST_ROCKS = 15;
    private static final int MOST_COUSINS = 6;
    private static final int MOST_INKED = 6;
    private static final int MOST_TAN = 9;
    private static final int MOST_DEPTH = 9;
    private static final int MOST_DRAFT = 10;
    private static final int MOST_ODDS = 16;
    private static final int MOST_SEEN = 20;
    private static final int MOST_TURNS = 4;
    private static final int MOST_SEED = 9999;
    private static final int MOST_SEEDS = 20;
    private static final int MOST_MARKS = 3;
    private static final int MOST_STEPS = 30;
    // Each when and each loop has an end of its own, so there are never more lines than this.
    private static final int MOST_LINES = 2 * MOST_STEPS;
    private static final int MOST_NESTED = 3;
    private static final int MOST_STEPS_LIVED = 300;
    private static final int HALF_THE_ODDS = 8;

    // The lines of the YEARS. An end is a line, but no STEP.
    private static final int SUN = 1;
    private static final int RAIN = 2;
    private static final int VEIL = 3;
    private static final int BARE = 4;
    private static final int INK = 5;
    private static final int WASH = 6;
    private static final int SAIL = 7;
    private static final int ANY = 8;
    private static final int STOP = 9;
    private static final int LOOP = 10;
    private static final int WHEN = 11;
    private static final int WHEN_SHOWS = 12;
    private static final int WHEN_TAN = 13;
    private static final int WHEN_VEILED = 14;
    private static final int END = 15;

    private final Fraction fraction = new Fraction();
    private final Trays trays = new Trays();
    private final byte[] tape = new byte[MOST_BYTES];
    private final CoastText coastText = new CoastText();
    private final YearsText yearsText = new YearsText();
    private final Pilot pilot = new Pilot();
    private final Living living = new Living();
    private final int[] latestLived = new int[5];
    private final Coast coast = new Coast();
    // For what must not touch the coast itself: texts that may be faulty, games, trial years.
    private final Coast draftCoast = new Coast();
    private final Coast[] kept = new Coast[MOST_MARKS];
    private int marks;
    private int taped;
    private int latestStatus;
    private int latestFault = NONE;
    private int latestFaultPlace = NONE;
    private boolean hasLived;

    public FreckleChart() {
    }

    public int status() {
        return latestStatus;
    }

    public long top() {
        return fraction.above;
    }

    public long bottom() {
        return fraction.below;
    }

    // ---- how a call ends

    private int tell(int answer) {
        latestStatus = DONE;
        return answer;
    }

    private int refuse(int why) {
        latestStatus = why;
        return NONE;
    }

    private boolean settle(int outcome) {
        latestStatus = outcome;
        return outcome == DONE;
    }

    private static boolean isWithin(int number, int least, int most) {
        return number >= least && number <= most;
    }

    // ---- TRAYS

    public boolean tray(int tray, int sort, int many) {
        return settle(trays.make(tray, sort, many));
    }

    public boolean write(int tray, int place, long v) {
        return settle(trays.put(tray, place, v));
    }

    public long read(int tray, int place) {
        int outcome = trays.lookAt(tray, place);
        latestStatus = outcome;
        return outcome == DONE ? trays.rows[tray][place] : NONE;
    }

    public boolean pour(int tray, int i, int to, int j, int many) {
        return settle(trays.move(tray, i, to, j, many));
    }

    // ---- texts

    public int feed(int a, int b, int c, int d, int e) {
        if (taped > MOST_BYTES - BYTES_A_FEED) {
            return NONE;
        }
        tapeInt(a);
        tapeInt(b);
        tapeInt(c);
        tapeInt(d);
        tapeInt(e);
        return taped;
    }

    private void tapeInt(int four) {
        for (int shift = 24; shift >= 0 && taped < tape.length; shift -= 8) {
            tape[taped] = (byte) (four >> shift);
            taped++;
        }
    }

    public int coast(int n) {
        if (n < 0 || n > taped) {
            return refuse(BAD_NUMBER);
        }
        boolean taken = coastText.take(tape, n, draftCoast);
        endText(coastText.reader);
        if (!taken) {
            return refuse(FAULTY);
        }
        coast.copyFrom(draftCoast);
        return tell(coast.cousins);
    }

    public int years(int n) {
        if (n < 0 || n > taped || n > MOST_YEARS_BYTES) {
            return refuse(BAD_NUMBER);
        }
        boolean taken = yearsText.take(tape, n, coast, draftCoast.years);
        endText(yearsText.reader);
        if (!taken) {
            return refuse(FAULTY);
        }
        coast.years.copyFrom(draftCoast.years);
        return tell(coast.years.steps);
    }

    private void endText(Reader reader) {
        taped = 0;
        latestFault = reader.fault;
        latestFaultPlace = reader.faultPlace;
    }

    public int fault(int what) {
        if (what == 0) {
            return latestFault;
        }
        return what == 1 ? latestFaultPlace : NONE;
    }

    public int many(int what) {
        switch (what) {
            case 0:
                return tell(coast.wide);
            case 1:
                return tell(coast.high);
            case 2:
                return tell(coast.rocks);
            case 3:
                return tell(coast.cousins);
            case 4:
                return tell(coast.odds);
            case 5:
                return tell(coast.struck);
            case 6:
                return tell(coast.cameIn);
            case 7:
                return tell(coast.veiled);
            case 8:
                return tell(coast.rockSet());
            default:
                return refuse(BAD_NUMBER);
        }
    }

    public int rock(int rock, int what) {
        if (!isWithin(rock, 0, coast.rocks - 1)) {
            return refuse(NO_PART);
        }
        if (what == 0) {
            return tell(coast.rockCells[rock]);
        }
        return what == 1 ? tell(coast.rockDepths[rock]) : refuse(BAD_NUMBER);
    }

    public int deep(int cell) {
        if (!coast.hasCell(cell)) {
            return refuse(NO_PART);
        }
        int depth = coast.depthIn(cell);
        return depth == NONE ? refuse(NOT_THERE) : tell(depth);
    }

    public int cousin(int cousin, int what) {
        if (!coast.hasCousin(cousin)) {
            return refuse(NO_PART);
        }
        switch (what) {
            case 0:
                return tell(coast.firstCells[cousin]);
            case 1:
                return tell(coast.patchWides[cousin]);
            case 2:
                return tell(coast.patchHighs[cousin]);
            case 3:
                return tell(coast.tans[cousin]);
            case 4:
                return tell(coast.isBare(cousin) ? 0 : 1);
            case 5:
                return tell(coast.inked[cousin]);
            case 6:
                return tell(coast.patches[cousin]);
            default:
                return refuse(BAD_NUMBER);
        }
    }

    public int shown(int cousin) {
        return coast.hasCousin(cousin) ? tell(coast.spotsOn(cousin)) : refuse(NO_PART);
    }

    public int copyTan(int tray) {
        int outcome = trays.lookFor(tray, coast.cousins);
        if (outcome != DONE) {
            return refuse(outcome);
        }
        for (int cousin = 0; cousin < coast.cousins; cousin++) {
            trays.put(tray, cousin, coast.tans[cousin]);
        }
        return tell(coast.cousins);
    }

    // ---- what is done

    public int sun(int cousin, int much) {
        if (!coast.hasCousin(cousin)) {
            return refuse(NO_PART);
        }
        if (!isWithin(much, 1, MOST_TAN)) {
            return refuse(BAD_NUMBER);
        }
        return coast.darken(cousin, much) ? tell(coast.tans[cousin]) : refuse(CANNOT_BE);
    }

    public int rain(int much) {
        return isWithin(much, 1, MOST_TAN) ? tell(coast.bleach(much)) : refuse(BAD_NUMBER);
    }

    public boolean veil(int cousin, boolean is) {
        if (!coast.hasCousin(cousin)) {
            return settle(NO_PART);
        }
        return settle(coast.cloak(cousin, is) ? DONE : CANNOT_BE);
    }

    public int ink(int cousin, int cell) {
        if (!coast.hasCousin(cousin) || !coast.hasCell(cell)) {
            return refuse(NO_PART);
        }
        int outcome = coast.tattoo(cousin, cell);
        return outcome == DONE ? tell(Integer.bitCount(coast.inked[cousin])) : refuse(outcome);
    }

    public int wash(int cousin) {
        if (!coast.hasCousin(cousin)) {
            return refuse(NO_PART);
        }
        int were = coast.scrub(cousin);
        return were > 0 ? tell(were) : refuse(CANNOT_BE);
    }

    public int wreck(int cell, int depth) {
        if (!coast.hasCell(cell)) {
            return refuse(NO_PART);
        }
        if (!isWithin(depth, 0, MOST_DEPTH)) {
            return refuse(BAD_NUMBER);
        }
        if (coast.rocks >= MOST_ROCKS) {
            return refuse(ONE_TOO_MANY);
        }
        if (coast.depthIn(cell) != NONE) {
            return refuse(CANNOT_BE);
        }
        coast.addRock(cell, depth);
        return tell(coast.rocks - 1);
    }

    public int sail(int cousins, int from, int to, int draft) {
        int outcome = lookForWay(cousins, from, to, draft);
        if (outcome != DONE) {
            return refuse(outcome);
        }
        return tell(pilot.comesIn(coast, draft) ? 1 : 0);
    }

    public int born(int cell, int wide, int high) {
        if (!coast.hasCell(cell)) {
            return refuse(NO_PART);
        }
        if (!coast.canBegin(cell, wide, high)) {
            return refuse(BAD_NUMBER);
        }
        if (coast.cousins >= MOST_COUSINS) {
            return refuse(ONE_TOO_MANY);
        }
        coast.addCousin(Reader.NO_NAME, cell, wide, high);
        return tell(coast.cousins - 1);
    }

    public boolean rule(int odds) {
        if (!isWithin(odds, 0, MOST_ODDS)) {
            return settle(BAD_NUMBER);
        }
        coast.odds = odds;
        return settle(DONE);
    }

    // ---- charts and ways

    private int lookAtVoyage(int cousins, int from, int to, int draft) {
        if (!coast.hasCell(from) || !coast.hasCell(to)) {
            return NO_PART;
        }
        boolean can = coast.hasSet(cousins) && isWithin(draft, 1, MOST_DRAFT);
        return can ? DONE : BAD_NUMBER;
    }

    /** How the search for a way ends; if with DONE, the pilot knows the way. */
    private int lookForWay(int cousins, int from, int to, int draft) {
        int outcome = lookAtVoyage(cousins, from, to, draft);
        if (outcome != DONE) {
            return outcome;
        }
        return pilot.findWay(coast, coast.openBy(cousins), from, to) ? DONE : NOT_THERE;
    }

    public int charted(int cousins) {
        return coast.hasSet(cousins) ? tell(coast.chartedBy(cousins)) : refuse(BAD_NUMBER);
    }

    public int open(int cousins) {
        return coast.hasSet(cousins) ? tell(coast.openBy(cousins)) : refuse(BAD_NUMBER);
    }

    public int way(int cousins, int from, int to) {
        int outcome = lookForWay(cousins, from, to, 1);
        return outcome == DONE ? tell(pilot.length) : refuse(outcome);
    }

    public int wayAt(int cousins, int from, int to, int k) {
        int outcome = lookForWay(cousins, from, to, 1);
        if (outcome != DONE) {
            return refuse(outcome);
        }
        return isWithin(k, 0, pilot.length - 1) ? tell(pilot.cells[k]) : refuse(NOT_THERE);
    }

    public int strikes(int cousins, int from, int to, int draft) {
        int outcome = lookForWay(cousins, from, to, draft);
        if (outcome != DONE) {
            return refuse(outcome);
        }
        int cell = pilot.struckCell(coast, draft);
        return cell == NONE ? refuse(NOT_THERE) : tell(cell);
    }

    public int fewest(int from, int to, int draft) {
        int set = findFewest(from, to, draft);
        return set == NONE ? NONE : tell(Integer.bitCount(set));
    }

    public int fewestSet(int from, int to, int draft) {
        return findFewest(from, to, draft);
    }

    private int findFewest(int from, int to, int draft) {
        int outcome = lookAtVoyage(0, from, to, draft);
        if (outcome != DONE) {
            return refuse(outcome);
        }
        int best = NONE;
        int least = MOST_COUSINS + 1;
        for (int set = 0; set < coast.sets(); set++) {
            int size = Integer.bitCount(set);
            if (size < least && pilot.isSafe(coast, set, from, to, draft)) {
                best = set;
                least = size;
            }
        }
        return best == NONE ? refuse(NOT_THERE) : tell(best);
    }

    public int deepest(int cousins, int from, int to) {
        int outcome = lookForWay(cousins, from, to, 1);
        if (outcome != DONE) {
            return refuse(outcome);
        }
        for (int draft = MOST_DRAFT; draft >= 1; draft--) {
            if (pilot.struckCell(coast, draft) == NONE) {
                return tell(draft);
            }
        }
        return refuse(NOT_THERE);
    }

    // ---- spots

    public int wants(int cousin) {
        if (!coast.hasCousin(cousin)) {
            return refuse(NO_PART);
        }
        int rocks = coast.patches[cousin] & coast.rockSet();
        for (int tan = coast.tans[cousin]; tan <= MOST_TAN; tan++) {
            if ((rocks & ~coast.rocksAbove(tan)) == 0) {
                return tell(tan - coast.tans[cousin]);
            }
        }
        return refuse(CANNOT_BE);
    }

    public int forged(int cousin) {
        if (!coast.hasCousin(cousin)) {
            return refuse(NO_PART);
        }
        return tell(Integer.bitCount(coast.inked[cousin] & ~coast.rockSet()));
    }

    public int parted(int cousin, int other) {
        if (!coast.hasCousin(cousin) || !coast.hasCousin(other)) {
            return refuse(NO_PART);
        }
        if (cousin == other) {
            return refuse(BAD_NUMBER);
        }
        int shared = coast.patches[cousin] & coast.patches[other];
        return tell((coast.spotsOn(cousin) ^ coast.spotsOn(other)) & shared);
    }

    public int cover() {
        int set = findCover();
        return set == NONE ? NONE : tell(Integer.bitCount(set));
    }

    public int coverSet() {
        return findCover();
    }

    private int findCover() {
        int best = NONE;
        int least = MOST_COUSINS + 1;
        for (int set = 0; set < coast.sets(); set++) {
            int size = Integer.bitCount(set);
            if (size < least && (coast.rockSet() & ~coast.patchesOf(set)) == 0) {
                best = set;
                least = size;
            }
        }
        return best == NONE ? refuse(NOT_THERE) : tell(best);
    }

    // ---- what was seen

    public int fits(int tray, int n, int wide, int high) {
        int outcome = lookAtSeen(tray, n, wide, high);
        if (outcome != DONE) {
            return refuse(outcome);
        }
        return tell(Integer.bitCount(coast.fitting(trays.placesIn(tray, n), wide, high)));
    }

    public int fitsAt(int tray, int n, int wide, int high, int k) {
        int outcome = lookAtSeen(tray, n, wide, high);
        if (outcome != DONE) {
            return refuse(outcome);
        }
        int fitting = coast.fitting(trays.placesIn(tray, n), wide, high);
        int passed = 0;
        for (int cell = 0; cell < MOST_CELLS; cell++) {
            if ((fitting >> cell & 1) != 0) {
                if (passed == k) {
                    return tell(cell);
                }
                passed++;
            }
        }
        return refuse(NOT_THERE);
    }

    private static boolean isPatchSize(int wide, int high) {
        return isWithin(wide, 1, MOST_WIDE) && isWithin(high, 1, MOST_HIGH);
    }

    private int lookAtSeen(int tray, int n, int wide, int high) {
        int outcome = trays.lookFor(tray, n);
        if (outcome != DONE) {
            return outcome;
        }
        if (!isWithin(n, 0, MOST_SEEN) || !isPatchSize(wide, high)) {
            return BAD_NUMBER;
        }
        for (int i = 0; i < n; i++) {
            long place = trays.rows[tray][i];
            if (place < 0 || place >= wide * high) {
                return BAD_NUMBER;
            }
        }
        return DONE;
    }

    public int ask(int wide, int high) {
        if (!isPatchSize(wide, high)) {
            return refuse(BAD_NUMBER);
        }
        int begins = coast.begins(wide, high);
        int all = Integer.bitCount(begins);
        if (all < 2) {
            return refuse(NOT_THERE);
        }
        int best = NONE;
        int least = all + 1;
        for (int place = 0; place < wide * high; place++) {
            int with = Integer.bitCount(begins & coast.rocksAtPlace(place, wide));
            int greater = Math.max(with, all - with);
            if (greater < least) {
                best = place;
                least = greater;
            }
        }
        return tell(best);
    }

    // ---- games, odds

    public int game(int turns) {
        if (!isWithin(turns, 0, MOST_TURNS)) {
            return refuse(BAD_NUMBER);
        }
        draftCoast.copyFrom(coast);
        return tell(bestEnd(draftCoast, turns, true));
    }

    public int moveOf(int turns) {
        if (!isWithin(turns, 1, MOST_TURNS)) {
            return refuse(BAD_NUMBER);
        }
        draftCoast.copyFrom(coast);
        int best = NONE;
        int most = NONE;
        for (int cousin = 0; cousin < draftCoast.cousins; cousin++) {
            int end = endBehind(draftCoast, cousin, turns, true);
            if (end > most) {
                best = cousin;
                most = end;
            }
        }
        // Without any move there is nothing but nothing, which is more than NONE.
        int byNothing = bestEnd(draftCoast, turns - 1, false);
        return byNothing > most ? refuse(NOT_THERE) : tell(best);
    }

    /** How many rocks show in the end by best play; the coast is as it was then. */
    private static int bestEnd(Coast coast, int turns, boolean bySun) {
        if (turns <= 0) {
            return Integer.bitCount(coast.rocksShown());
        }
        int best = bestEnd(coast, turns - 1, !bySun);
        for (int cousin = 0; cousin < coast.cousins; cousin++) {
            int end = endBehind(coast, cousin, turns, bySun);
            if (end != NONE) {
                best = bySun ? Math.max(best, end) : Math.min(best, end);
            }
        }
        return best;
    }

    /** The end by best play behind a move with this cousin; NONE if that is no move. */
    private static int endBehind(Coast coast, int cousin, int turns, boolean bySun) {
        if (!coast.hasCousin(cousin) || !coast.isBare(cousin)) {
            return NONE;
        }
        int tan = coast.tans[cousin];
        int moved = bySun ? Math.min(MOST_TAN, tan + 1) : Math.max(0, tan - 2);
        if (moved == tan) {
            return NONE;
        }
        coast.tans[cousin] = moved;
        int end = bestEnd(coast, turns - 1, !bySun);
        coast.tans[cousin] = tan;
        return end;
    }

    public boolean infant(int cousin, int other, int k) {
        if (!coast.hasCousin(cousin) || !coast.hasCousin(other)) {
            return settle(NO_PART);
        }
        if (cousin == other || !isWithin(k, 0, MOST_ROCKS)) {
            return settle(BAD_NUMBER);
        }
        int ofOne = coast.patches[cousin] & coast.rockSet();
        int ofOther = coast.patches[other] & coast.rockSet();
        int surely = Integer.bitCount(ofOne & ofOther);
        fraction.putOdds(Integer.bitCount(ofOne ^ ofOther), HALF_THE_ODDS, k - surely);
        return settle(DONE);
    }

    public boolean fades(int cousin, int k) {
        if (!coast.hasCousin(cousin)) {
            return settle(NO_PART);
        }
        if (!isWithin(k, 0, MOST_ROCKS)) {
            return settle(BAD_NUMBER);
        }
        int showing = Integer.bitCount(coast.spotsOn(cousin) & coast.rockSet());
        fraction.putOdds(showing, coast.odds, k);
        return settle(DONE);
    }

    public boolean freckled(int cousin) {
        if (!coast.hasCousin(cousin)) {
            return settle(NO_PART);
        }
        int showing = Integer.bitCount(coast.spotsOn(cousin));
        fraction.put(showing, Integer.bitCount(coast.patches[cousin]));
        return settle(DONE);
    }

    // ---- YEARS

    public int live(int seed) {
        if (!isWithin(seed, 0, MOST_SEED)) {
            return refuse(BAD_NUMBER);
        }
        if (!coast.years.there) {
            return refuse(NOT_THERE);
        }
        living.run(coast, seed);
        latestLived[0] = living.missed;
        latestLived[1] = living.struck;
        latestLived[2] = living.cameIn;
        latestLived[3] = living.darkened;
        latestLived[4] = living.isLeft ? 1 : 0;
        hasLived = true;
        return tell(living.steps);
    }

    public int lived(int what) {
        if (!isWithin(what, 0, latestLived.length - 1)) {
            return refuse(BAD_NUMBER);
        }
        return hasLived ? tell(latestLived[what]) : refuse(NOT_THERE);
    }

    public boolean mean(int seed, int many) {
        boolean can = isWithin(many, 1, MOST_SEEDS) && isWithin(seed, 0, MOST_SEED - many + 1);
        if (!can) {
            return settle(BAD_NUMBER);
        }
        if (!coast.years.there) {
            return settle(NOT_THERE);
        }
        int sum = 0;
        for (int i = 0; i < many; i++) {
            draftCoast.copyFrom(coast);
            living.run(draftCoast, seed + i);
            sum += draftCoast.tanTogether();
        }
        fraction.put(sum, many);
        return settle(DONE);
    }

    // ---- MARKS

    public int mark() {
        if (!isWithin(marks, 0, kept.length - 1)) {
            return refuse(ONE_TOO_MANY);
        }
        if (kept[marks] == null) {
            kept[marks] = new Coast();
        }
        kept[marks].copyFrom(coast);
        marks++;
        return tell(marks);
    }

    public int back() {
        Coast latest = isWithin(marks, 1, kept.length) ? kept[marks - 1] : null;
        if (latest == null) {
            return refuse(NOT_THERE);
        }
        coast.copyFrom(latest);
        marks--;
        return tell(marks);
    }

    /** The fraction told latest, without a common divisor. */
    private static final class Fraction {
        long above = 0;
        long below = 1;
        private final long[] ways = new long[MOST_ROCKS + 1];

        void put(long top, long bottom) {
            long divisor = commonDivisor(top, bottom);
            if (divisor > 0) {
                above = top / divisor;
                below = bottom / divisor;
            }
        }

        private static long commonDivisor(long one, long other) {
            long a = one;
            long b = other;
            // Two steps at least halve the numbers, so 200 are enough for any long.
            for (int i = 0; i < 200 && b != 0; i++) {
                long rest = a % b;
                a = b;
                b = rest;
            }
            return a;
        }

        /** The odds that of so many, each by so many sixteenths, there are so many or more. */
        void putOdds(int many, int sixteenths, int orMore) {
            countWays(many, sixteenths);
            long good = 0;
            for (int hits = Math.max(0, orMore); hits <= many && hits < ways.length; hits++) {
                good += ways[hits];
            }
            // 16 to the 15th is 2 to the 60th, so no count goes beyond a long.
            put(good, 1L << 4 * many);
        }

        private void countWays(int many, int sixteenths) {
            ways[0] = 1;
            for (int i = 1; i < ways.length; i++) {
                ways[i] = 0;
            }
            for (int i = 1; i <= many && i < ways.length; i++) {
                for (int hits = i; hits > 0; hits--) {
                    long missing = ways[hits] * (MOST_ODDS - sixteenths);
                    ways[hits] = missing + ways[hits - 1] * sixteenths;
                }
                ways[0] *= MOST_ODDS - sixteenths;
            }
        }
    }

    /** The four trays; their rows are made once and used again. */
    private static final class Trays {
        final long[][] rows = new long[MOST_TRAYS][MOST_PLACES];
        private final int[] sorts = new int[MOST_TRAYS];
        private final int[] lengths = {NONE, NONE, NONE, NONE};

        private static boolean isTray(int tray) {
            return tray >= 0 && tray < MOST_TRAYS;
        }

        int make(int tray, int sort, int many) {
            if (!isTray(tray) || sort < 0 || sort > 3) {
                return NO_TRAY;
            }
            if (many > MOST_PLACES) {
                return BAD_NUMBER;
            }
            if (many < 0) {
                return BELOW_ZERO;
            }
            sorts[tray] = sort;
            lengths[tray] = many;
            for (int i = 0; i < many; i++) {
                rows[tray][i] = 0;
            }
            return DONE;
        }

        /** Whether a tray is there and has at least so many numbers. */
        int lookFor(int tray, int many) {
            if (!isTray(tray)) {
                return NO_TRAY;
            }
            if (lengths[tray] < 0) {
                return TRAY_MISSING;
            }
            return many > lengths[tray] ? NO_PLACE : DONE;
        }

        int lookAt(int tray, int place) {
            int outcome = lookFor(tray, 0);
            if (outcome != DONE) {
                return outcome;
            }
            return place >= 0 && place < lengths[tray] ? DONE : NO_PLACE;
        }

        int put(int tray, int place, long v) {
            int outcome = lookAt(tray, place);
            if (outcome == DONE) {
                rows[tray][place] = cut(v, sorts[tray]);
            }
            return outcome;
        }

        private static long cut(long v, int sort) {
            switch (sort) {
                case 0:
                    return (byte) v;
                case 1:
                    return (short) v;
                case 2:
                    return (int) v;
                default:
                    return v;
            }
        }

        int move(int tray, int i, int to, int j, int many) {
            if (!isTray(tray) || !isTray(to)) {
                return NO_TRAY;
            }
            if (lengths[tray] < 0 || lengths[to] < 0) {
                return TRAY_MISSING;
            }
            if (sorts[tray] != sorts[to]) {
                return UNLIKE_SORTS;
            }
            if (many < 0) {
                return BELOW_ZERO;
            }
            // Not i + many, which could go beyond an int.
            if (i < 0 || j < 0 || i > lengths[tray] - many || j > lengths[to] - many) {
                return NO_PLACE;
            }
            System.arraycopy(rows[tray], i, rows[to], j, many);
            return DONE;
        }

        /** The set of places that the first numbers tell; each is looked at by the caller. */
        int placesIn(int tray, int n) {
            int places = 0;
            for (int i = 0; i < n && i < MOST_PLACES && isTray(tray); i++) {
                places |= 1 << (int) rows[tray][i];
            }
            return places;
        }
    }

    /** A coast with all that became of it, and the years that are told of it. */
    private static final class Coast {
        int wide;
        int high;
        int odds;
        int rocks;
        final int[] rockCells = new int[MOST_ROCKS];
        final int[] rockDepths = new int[MOST_ROCKS];
        // By d: the cells with a rock of a depth below d.
        private final int[] shallow = new int[MOST_DEPTH + 2];
        int cousins;
        final long[] names = new long[MOST_COUSINS];
        final int[] firstCells = new int[MOST_COUSINS];
        final int[] patchWides = new int[MOST_COUSINS];
        final int[] patchHighs = new int[MOST_COUSINS];
        final int[] patches = new int[MOST_COUSINS];
        final int[] tans = new int[MOST_COUSINS];
        final int[] inked = new int[MOST_COUSINS];
        int veiled;
        int struck;
        int cameIn;
        final Years years = new Years();

        Coast() {
            clear();
        }

        void clear() {
            wide = 5;
            high = 4;
            odds = 8;
            rocks = 0;
            for (int i = 0; i < shallow.length; i++) {
                shallow[i] = 0;
            }
            cousins = 0;
            veiled = 0;
            struck = 0;
            cameIn = 0;
            years.clear();
        }

        void copyFrom(Coast other) {
            wide = other.wide;
            high = other.high;
            odds = other.odds;
            rocks = other.rocks;
            copyAll(other.rockCells, rockCells);
            copyAll(other.rockDepths, rockDepths);
            copyAll(other.shallow, shallow);
            cousins = other.cousins;
            System.arraycopy(other.names, 0, names, 0, names.length);
            copyAll(other.firstCells, firstCells);
            copyAll(other.patchWides, patchWides);
            copyAll(other.patchHighs, patchHighs);
            copyAll(other.patches, patches);
            copyAll(other.tans, tans);
            copyAll(other.inked, inked);
            veiled = other.veiled;
            struck = other.struck;
            cameIn = other.cameIn;
            years.copyFrom(other.years);
        }

        private static void copyAll(int[] from, int[] to) {
            System.arraycopy(from, 0, to, 0, Math.min(from.length, to.length));
        }

        // -- what there is

        boolean hasCell(int cell) {
            return cell >= 0 && cell < wide * high;
        }

        boolean hasCousin(int cousin) {
            return cousin >= 0 && cousin < cousins;
        }

        /** How many sets of cousins there are. */
        int sets() {
            return 1 << cousins;
        }

        boolean hasSet(int set) {
            return set >= 0 && set < sets();
        }

        int column(int cell) {
            return wide > 0 ? cell % wide : 0;
        }

        int row(int cell) {
            return wide > 0 ? cell / wide : 0;
        }

        /** Whether a patch so wide and high can begin in a cell. */
        boolean canBegin(int cell, int patchWide, int patchHigh) {
            return hasCell(cell) && patchWide >= 1 && patchHigh >= 1
                    && patchWide <= wide - column(cell) && patchHigh <= high - row(cell);
        }

        int begins(int patchWide, int patchHigh) {
            int set = 0;
            for (int cell = 0; cell < wide * high; cell++) {
                if (canBegin(cell, patchWide, patchHigh)) {
                    set |= 1 << cell;
                }
            }
            return set;
        }

        // -- rocks

        int rockSet() {
            return shallow[shallow.length - 1];
        }

        /** The cells with a rock above a depth: what shows by so much tan, strikes so deep. */
        int rocksAbove(int depth) {
            return depth < 0 ? 0 : shallow[Math.min(depth, shallow.length - 1)];
        }

        int depthIn(int cell) {
            for (int rock = 0; rock < rocks; rock++) {
                if (rockCells[rock] == cell) {
                    return rockDepths[rock];
                }
            }
            return NONE;
        }

        void addRock(int cell, int depth) {
            if (rocks >= MOST_ROCKS || depth < 0) {
                return;
            }
            rockCells[rocks] = cell;
            rockDepths[rocks] = depth;
            rocks++;
            for (int i = depth + 1; i < shallow.length; i++) {
                shallow[i] |= 1 << cell;
            }
        }

        /** The cells in which such a patch would begin that has a rock in a place of it. */
        int rocksAtPlace(int place, int patchWide) {
            if (patchWide < 1) {
                return 0;
            }
            return rockSet() >> (place / patchWide * wide + place % patchWide);
        }

        /** The cells in which such a patch can begin that has rocks in just these places. */
        int fitting(int places, int patchWide, int patchHigh) {
            int set = begins(patchWide, patchHigh);
            for (int place = 0; place < patchWide * patchHigh; place++) {
                int with = rocksAtPlace(place, patchWide);
                set &= (places >> place & 1) != 0 ? with : ~with;
            }
            return set;
        }

        // -- cousins

        void addCousin(long name, int cell, int patchWide, int patchHigh) {
            if (cousins >= MOST_COUSINS) {
                return;
            }
            names[cousins] = name;
            firstCells[cousins] = cell;
            patchWides[cousins] = patchWide;
            patchHighs[cousins] = patchHigh;
            patches[cousins] = patchFrom(cell, patchWide, patchHigh);
            tans[cousins] = 0;
            inked[cousins] = 0;
            veiled &= ~(1 << cousins);
            cousins++;
        }

        private int patchFrom(int cell, int patchWide, int patchHigh) {
            int set = 0;
            for (int down = 0; down < patchHigh; down++) {
                for (int across = 0; across < patchWide; across++) {
                    set |= 1 << (cell + down * wide + across);
                }
            }
            return set;
        }

        int cousinNamed(long name) {
            for (int cousin = 0; cousin < cousins; cousin++) {
                if (names[cousin] == name) {
                    return cousin;
                }
            }
            return NONE;
        }

        boolean isBare(int cousin) {
            return (veiled >> cousin & 1) == 0;
        }

        int spotsOn(int cousin) {
            if (!hasCousin(cousin) || !isBare(cousin)) {
                return 0;
            }
            return patches[cousin] & rocksAbove(tans[cousin]) | inked[cousin];
        }

        /** The cells with a rock in which a spot shows on anybody. */
        int rocksShown() {
            int set = 0;
            for (int cousin = 0; cousin < cousins; cousin++) {
                set |= spotsOn(cousin);
            }
            return set & rockSet();
        }

        int tanTogether() {
            int sum = 0;
            for (int cousin = 0; cousin < cousins; cousin++) {
                sum += tans[cousin];
            }
            return sum;
        }

        /** The patches of a set of cousins, veiled or not. */
        int patchesOf(int set) {
            int cells = 0;
            for (int cousin = 0; cousin < cousins; cousin++) {
                if ((set >> cousin & 1) != 0) {
                    cells |= patches[cousin];
                }
            }
            return cells;
        }

        int chartedBy(int set) {
            return patchesOf(set & ~veiled);
        }

        int openBy(int set) {
            int spots = 0;
            for (int cousin = 0; cousin < cousins; cousin++) {
                if ((set >> cousin & 1) != 0) {
                    spots |= spotsOn(cousin);
                }
            }
            return chartedBy(set) & ~spots;
        }

        // -- what is done; each says whether it can be, and else changes nothing

        boolean darken(int cousin, int much) {
            if (!hasCousin(cousin) || !isBare(cousin) || tans[cousin] >= MOST_TAN) {
                return false;
            }
            tans[cousin] = Math.min(MOST_TAN, tans[cousin] + much);
            return true;
        }

        /** Rain: how many cousins grow paler. */
        int bleach(int much) {
            int paler = 0;
            for (int cousin = 0; cousin < cousins; cousin++) {
                if (isBare(cousin) && tans[cousin] > 0) {
                    tans[cousin] = Math.max(0, tans[cousin] - much);
                    paler++;
                }
            }
            return paler;
        }

        boolean cloak(int cousin, boolean is) {
            if (!hasCousin(cousin) || isBare(cousin) != is) {
                return false;
            }
            veiled ^= 1 << cousin;
            return true;
        }

        int tattoo(int cousin, int cell) {
            if (!hasCousin(cousin) || !hasCell(cell)) {
                return NO_PART;
            }
            if (Integer.bitCount(inked[cousin]) >= MOST_INKED) {
                return ONE_TOO_MANY;
            }
            if ((patches[cousin] & ~inked[cousin] & 1 << cell) == 0) {
                return CANNOT_BE;
            }
            inked[cousin] |= 1 << cell;
            return DONE;
        }

        /** Washes a cousin: how many cells were inked. */
        int scrub(int cousin) {
            if (!hasCousin(cousin)) {
                return 0;
            }
            int were = Integer.bitCount(inked[cousin]);
            inked[cousin] = 0;
            return were;
        }
    }

    /** The years as lines: what each is, whom it is about, its numbers, its other end. */
    private static final class Years {
        boolean there;
        int steps;
        int lines;
        final int[] kinds = new int[MOST_LINES];
        final int[] whose = new int[MOST_LINES];
        final int[] firsts = new int[MOST_LINES];
        final int[] seconds = new int[MOST_LINES];
        final int[] thirds = new int[MOST_LINES];
        // Of a when, a loop: the line of its end; of an end: the line of its beginning.
        final int[] partners = new int[MOST_LINES];

        void clear() {
            there = false;
            steps = 0;
            lines = 0;
        }

        void copyFrom(Years other) {
            there = other.there;
            steps = other.steps;
            lines = other.lines;
            System.arraycopy(other.kinds, 0, kinds, 0, kinds.length);
            System.arraycopy(other.whose, 0, whose, 0, whose.length);
            System.arraycopy(other.firsts, 0, firsts, 0, firsts.length);
            System.arraycopy(other.seconds, 0, seconds, 0, seconds.length);
            System.arraycopy(other.thirds, 0, thirds, 0, thirds.length);
            System.arraycopy(other.partners, 0, partners, 0, partners.length);
        }

        boolean hasLine(int line) {
            return line >= 0 && line < lines && line < MOST_LINES;
        }

        /** Makes two lines the beginning and the end of one block. */
        void join(int beginning, int end) {
            if (hasLine(beginning) && hasLine(end)) {
                partners[beginning] = end;
                partners[end] = beginning;
            }
        }

        /** A line more, of a kind, without numbers as yet: which it is; NONE if all are used. */
        int addLine(int kind) {
            if (lines >= MOST_LINES) {
                return NONE;
            }
            kinds[lines] = kind;
            whose[lines] = NONE;
            firsts[lines] = 0;
            seconds[lines] = 0;
            thirds[lines] = 0;
            partners[lines] = NONE;
            lines++;
            return lines - 1;
        }
    }

    /** Takes a text from the tape, token by token; keeps the fault that was met. */
    private static final class Reader {
        /** The name of who is born later, and of no word: it is the code of no letters. */
        static final long NO_NAME = 0;
        static final int AT_END = 0;
        static final int WORD = 1;
        static final int NUMBER = 2;
        static final int SIGN = 3;
        static final int NO_TOKEN = 4;
        private static final int MOST_LETTERS = 8;
        private static final int MOST_DIGITS = 4;
        // No NAME is one of these; a blank stands behind each.
        private static final String COAST_WORDS =
                "coast by odds rock deep cousin at wide high tan veiled inked ";
        private static final String YEARS_WORDS =
                "sun rain veil bare ink wash sail any when shows loop end stop ";

        private final byte[] text = new byte[MOST_BYTES];
        private int length;
        private int next;
        private int place;
        int kind;
        // Of a word of up to 8 letters: five bits a letter, which are never all 0.
        long code;
        int number;
        int sign;
        int fault;
        int faultPlace;

        /** Begins with the first n bytes of a tape. */
        void begin(byte[] tape, int n) {
            length = Math.max(0, Math.min(n, Math.min(tape.length, text.length)));
            System.arraycopy(tape, 0, text, 0, length);
            next = 0;
            fault = 0;
            faultPlace = NONE;
            advance();
        }

        void advance() {
            while (next < length && (text[next] == 32 || text[next] == 10)) {
                next++;
            }
            place = next;
            if (next >= length) {
                kind = AT_END;
            } else if (text[next] >= 'a' && text[next] <= 'z') {
                readWord();
            } else if (text[next] >= '0' && text[next] <= '9') {
                readNumber();
            } else {
                readSign();
            }
        }

        private void readWord() {
            kind = WORD;
            code = NO_NAME;
            while (next < length && text[next] >= 'a' && text[next] <= 'z') {
                if (next - place < MOST_LETTERS) {
                    code = code << 5 | text[next] & 31;
                }
                next++;
            }
            if (next - place > MOST_LETTERS) {
                code = NO_NAME;
            }
        }

        private void readNumber() {
            number = 0;
            while (next < length && text[next] >= '0' && text[next] <= '9') {
                if (next - place < MOST_DIGITS) {
                    number = number * 10 + (text[next] - '0');
                }
                next++;
            }
            kind = next - place > MOST_DIGITS ? NO_TOKEN : NUMBER;
        }

        private void readSign() {
            sign = next < length ? text[next] : 0;
            boolean known = sign == ';' || sign == '<' || sign == '>' || sign == '=';
            kind = known ? SIGN : NO_TOKEN;
            next++;
        }

        boolean isWord(String word) {
            long other = NO_NAME;
            for (int i = 0; i < word.length(); i++) {
                other = other << 5 | word.charAt(i) & 31;
            }
            return kind == WORD && code == other;
        }

        private static boolean isAmong(String words, long code) {
            long word = NO_NAME;
            for (int i = 0; i < words.length(); i++) {
                char c = words.charAt(i);
                if (c != ' ') {
                    word = word << 5 | c & 31;
                } else if (word == code) {
                    return true;
                } else {
                    word = NO_NAME;
                }
            }
            return false;
        }

        /** Keeps a fault of the token that is read. */
        boolean fail(int why) {
            fault = why;
            faultPlace = place;
            return false;
        }

        /** What is read can't stand here. */
        boolean reject() {
            fault = kind == NO_TOKEN ? NO_TOKEN_FAULT : MISPLACED_FAULT;
            faultPlace = place;
            return false;
        }

        boolean seeName() {
            boolean isName = kind == WORD && code != NO_NAME
                    && !isAmong(COAST_WORDS, code) && !isAmong(YEARS_WORDS, code);
            return isName || reject();
        }

        boolean seeNumber(int least, int most) {
            if (kind != NUMBER) {
                return reject();
            }
            return number >= least && number <= most || fail(NUMBER_FAULT);
        }

        boolean passWord(String word) {
            if (!isWord(word)) {
                return reject();
            }
            advance();
            return true;
        }

        boolean passSemicolon() {
            if (kind != SIGN || sign != ';') {
                return reject();
            }
            advance();
            return true;
        }
    }

    /** Reads a coast. */
    private static final class CoastText {
        final Reader reader = new Reader();
        private boolean sizeTold;
        private boolean oddsTold;

        /** Whether the first n bytes are a coast; what is read stands in the one given. */
        boolean take(byte[] tape, int n, Coast coast) {
            reader.begin(tape, n);
            coast.clear();
            sizeTold = false;
            oddsTold = false;
            boolean taken = true;
            for (int i = 0; i < MOST_BYTES && taken && reader.kind != Reader.AT_END; i++) {
                if (reader.isWord("coast")) {
                    taken = takeSize(coast);
                } else if (reader.isWord("odds")) {
                    taken = takeOdds(coast);
                } else if (reader.isWord("rock")) {
                    taken = takeRock(coast);
                } else if (reader.isWord("cousin")) {
                    taken = takeCousin(coast);
                } else {
                    taken = reader.reject();
                }
            }
            return taken;
        }

        private boolean takeSize(Coast coast) {
            if (sizeTold || coast.rocks > 0 || coast.cousins > 0) {
                return reader.fail(TWICE_FAULT);
            }
            sizeTold = true;
            reader.advance();
            if (!reader.seeNumber(1, MOST_WIDE)) {
                return false;
            }
            coast.wide = reader.number;
            reader.advance();
            if (!reader.passWord("by") || !reader.seeNumber(1, MOST_HIGH)) {
                return false;
            }
            coast.high = reader.number;
            reader.advance();
            return reader.passSemicolon();
        }

        private boolean takeOdds(Coast coast) {
            if (oddsTold) {
                return reader.fail(TWICE_FAULT);
            }
            oddsTold = true;
            reader.advance();
            if (!reader.seeNumber(0, MOST_ODDS)) {
                return false;
            }
            coast.odds = reader.number;
            reader.advance();
            return reader.passSemicolon();
        }

        private boolean takeRock(Coast coast) {
            if (coast.rocks >= MOST_ROCKS) {
                return reader.fail(TOO_MANY_FAULT);
            }
            reader.advance();
            if (!reader.seeNumber(0, coast.wide * coast.high - 1)) {
                return false;
            }
            int cell = reader.number;
            if (coast.depthIn(cell) != NONE) {
                return reader.fail(TWICE_FAULT);
            }
            reader.advance();
            if (!reader.passWord("deep") || !reader.seeNumber(0, MOST_DEPTH)) {
                return false;
            }
            coast.addRock(cell, reader.number);
            reader.advance();
            return reader.passSemicolon();
        }

        private boolean takeCousin(Coast coast) {
            if (coast.cousins >= MOST_COUSINS) {
                return reader.fail(TOO_MANY_FAULT);
            }
            reader.advance();
            if (!reader.seeName()) {
                return false;
            }
            long name = reader.code;
            if (coast.cousinNamed(name) != NONE) {
                return reader.fail(NAME_FAULT);
            }
            reader.advance();
            return takePatch(coast, name) && takeLooks(coast, coast.cousins - 1)
                    && reader.passSemicolon();
        }

        private boolean takePatch(Coast coast, long name) {
            if (!reader.passWord("at") || !reader.seeNumber(0, coast.wide * coast.high - 1)) {
                return false;
            }
            int cell = reader.number;
            reader.advance();
            if (!reader.passWord("wide")
                    || !reader.seeNumber(1, coast.wide - coast.column(cell))) {
                return false;
            }
            int patchWide = reader.number;
            reader.advance();
            if (!reader.passWord("high") || !reader.seeNumber(1, coast.high - coast.row(cell))) {
                return false;
            }
            coast.addCousin(name, cell, patchWide, reader.number);
            reader.advance();
            return true;
        }

        private boolean takeLooks(Coast coast, int cousin) {
            if (!coast.hasCousin(cousin)) {
                return false;
            }
            if (reader.isWord("tan")) {
                reader.advance();
                if (!reader.seeNumber(0, MOST_TAN)) {
                    return false;
                }
                coast.tans[cousin] = reader.number;
                reader.advance();
            }
            if (reader.isWord("veiled")) {
                coast.cloak(cousin, true);
                reader.advance();
            }
            if (reader.isWord("inked")) {
                reader.advance();
                return takeInk(coast, cousin);
            }
            return true;
        }

        private boolean takeInk(Coast coast, int cousin) {
            for (int i = 0; i <= MOST_INKED && reader.kind == Reader.NUMBER; i++) {
                int cell = reader.number;
                if (!coast.hasCell(cell) || (coast.patches[cousin] >> cell & 1) == 0) {
                    return reader.fail(NUMBER_FAULT);
                }
                if ((coast.inked[cousin] >> cell & 1) != 0) {
                    return reader.fail(TWICE_FAULT);
                }
                if (coast.tattoo(cousin, cell) != DONE) {
                    return reader.fail(TOO_MANY_FAULT);
                }
                reader.advance();
            }
            return true;
        }
    }

    /** Reads the years of a coast. */
    private static final class YearsText {
        final Reader reader = new Reader();
        private final int[] opened = new int[MOST_NESTED];
        private int nested;

        /** Whether the first n bytes are years of a coast; what is read stands in those given. */
        boolean take(byte[] tape, int n, Coast coast, Years years) {
            reader.begin(tape, n);
            years.clear();
            years.there = true;
            nested = 0;
            boolean taken = true;
            for (int i = 0; i < MOST_BYTES && taken && reader.kind != Reader.AT_END; i++) {
                if (reader.isWord("end")) {
                    taken = takeEnd(years);
                } else {
                    int kind = kindOfStep();
                    int line = lineForStep(years, kind);
                    taken = line != NONE && (kind == WHEN ? takeTest(coast, years, line)
                            : takeNumbers(coast, years, line));
                }
                taken = taken && reader.passSemicolon();
            }
            return taken && (nested == 0 || reader.reject());
        }

        private boolean takeEnd(Years years) {
            if (nested <= 0 || nested > opened.length) {
                return reader.reject();
            }
            nested--;
            int end = years.addLine(END);
            years.join(opened[nested], end);
            reader.advance();
            return true;
        }

        /** The line of the step whose word is read; NONE if that step can't stand here. */
        private int lineForStep(Years years, int kind) {
            boolean opens = kind == WHEN || kind == LOOP;
            if (kind == NONE) {
                reader.reject();
                return NONE;
            }
            if (years.steps >= MOST_STEPS) {
                reader.fail(TOO_MANY_FAULT);
                return NONE;
            }
            if (opens && nested >= opened.length) {
                reader.fail(NESTED_FAULT);
                return NONE;
            }
            int line = years.addLine(kind);
            years.steps++;
            if (opens) {
                opened[nested] = line;
                nested++;
            }
            reader.advance();
            return line;
        }

        private int kindOfStep() {
            if (reader.isWord("sun")) {
                return SUN;
            }
            if (reader.isWord("rain")) {
                return RAIN;
            }
            if (reader.isWord("veil")) {
                return VEIL;
            }
            if (reader.isWord("bare")) {
                return BARE;
            }
            if (reader.isWord("ink")) {
                return INK;
            }
            if (reader.isWord("wash")) {
                return WASH;
            }
            if (reader.isWord("sail")) {
                return SAIL;
            }
            if (reader.isWord("any")) {
                return ANY;
            }
            if (reader.isWord("when")) {
                return WHEN;
            }
            if (reader.isWord("loop")) {
                return LOOP;
            }
            return reader.isWord("stop") ? STOP : NONE;
        }

        private boolean takeNumbers(Coast coast, Years years, int line) {
            if (!years.hasLine(line)) {
                return reader.reject();
            }
            int lastCell = coast.wide * coast.high - 1;
            switch (years.kinds[line]) {
                case SUN:
                    return takeCousin(coast, years, line)
                            && takeNumber(years.firsts, line, 1, MOST_TAN);
                case RAIN:
                    return takeNumber(years.firsts, line, 1, MOST_TAN);
                case VEIL:
                case BARE:
                case WASH:
                    return takeCousin(coast, years, line);
                case INK:
                    return takeCousin(coast, years, line)
                            && takeNumber(years.firsts, line, 0, lastCell);
                case SAIL:
                    return takeCousin(coast, years, line)
                            && takeNumber(years.firsts, line, 0, lastCell)
                            && takeNumber(years.seconds, line, 0, lastCell)
                            && takeNumber(years.thirds, line, 1, MOST_DRAFT);
                case LOOP:
                    return takeNumber(years.firsts, line, 1, 99);
                default:
                    return true;
            }
        }

        private boolean takeTest(Coast coast, Years years, int line) {
            if (!years.hasLine(line)) {
                return reader.reject();
            }
            if (reader.isWord("shows")) {
                years.kinds[line] = WHEN_SHOWS;
                reader.advance();
                return takeCousin(coast, years, line)
                        && takeNumber(years.firsts, line, 0, coast.wide * coast.high - 1);
            }
            if (reader.isWord("tan")) {
                years.kinds[line] = WHEN_TAN;
                reader.advance();
                return takeCousin(coast, years, line) && takeCompares(years, line)
                        && takeNumber(years.firsts, line, 0, MOST_TAN);
            }
            if (reader.isWord("veiled")) {
                years.kinds[line] = WHEN_VEILED;
                reader.advance();
                return takeCousin(coast, years, line);
            }
            return reader.reject();
        }

        private boolean takeCousin(Coast coast, Years years, int line) {
            if (!reader.seeName()) {
                return false;
            }
            int cousin = coast.cousinNamed(reader.code);
            if (cousin == NONE) {
                return reader.fail(NAME_FAULT);
            }
            years.whose[line] = cousin;
            reader.advance();
            return true;
        }

        private boolean takeNumber(int[] numbers, int line, int least, int most) {
            if (!reader.seeNumber(least, most)) {
                return false;
            }
            numbers[line] = reader.number;
            reader.advance();
            return true;
        }

        private boolean takeCompares(Years years, int line) {
            if (reader.kind != Reader.SIGN || reader.sign == ';') {
                return reader.reject();
            }
            years.seconds[line] = reader.sign;
            reader.advance();
            return true;
        }
    }

    /** Finds ways, and keeps the one found latest. */
    private static final class Pilot {
        final int[] cells = new int[MOST_CELLS];
        int length;
        // By d: the cells from which it takes d moves to the goal.
        private final int[] rings = new int[MOST_CELLS + 1];
        private int wide;
        private int firstColumn;
        private int lastColumn;

        /** Finds the way through open cells, if there is one. */
        boolean findWay(Coast coast, int open, int from, int to) {
            length = 0;
            if (!coast.hasCell(from) || !coast.hasCell(to)) {
                return false;
            }
            lookAtEdges(coast);
            int moves = spreadRings(open, from, to);
            if (moves == NONE) {
                return false;
            }
            goAlong(from, moves);
            return true;
        }

        private void lookAtEdges(Coast coast) {
            wide = coast.wide;
            firstColumn = 0;
            for (int row = 0; row < coast.high; row++) {
                firstColumn |= 1 << row * wide;
            }
            lastColumn = firstColumn << (wide - 1);
        }

        private int beside(int set) {
            return set << wide | set >>> wide
                    | (set & ~lastColumn) << 1 | (set & ~firstColumn) >>> 1;
        }

        /** Rings about the goal, out to the start: how many moves it takes, or NONE. */
        private int spreadRings(int open, int from, int to) {
            rings[0] = 1 << to & open;
            int left = open & ~rings[0];
            for (int moves = 0; moves < MOST_CELLS && rings[moves] != 0; moves++) {
                if ((rings[moves] >> from & 1) != 0) {
                    return moves;
                }
                rings[moves + 1] = beside(rings[moves]) & left;
                left &= ~rings[moves + 1];
            }
            return NONE;
        }

        /** Goes from ring to ring inwards, to the least cell each time. */
        private void goAlong(int from, int moves) {
            cells[0] = from;
            length = 1;
            for (int ring = moves - 1; ring >= 0 && length < cells.length; ring--) {
                cells[length] = leastOf(beside(1 << cells[length - 1]) & rings[ring]);
                length++;
            }
        }

        private static int leastOf(int set) {
            // The bits below the lowest one, counted.
            return Integer.bitCount((set & -set) - 1);
        }

        /** The first cell of the way in which a ship strikes, or NONE. */
        int struckCell(Coast coast, int draft) {
            int rocks = coast.rocksAbove(draft);
            for (int i = 0; i < length && i < cells.length; i++) {
                if ((rocks >> cells[i] & 1) != 0) {
                    return cells[i];
                }
            }
            return NONE;
        }

        boolean isSafe(Coast coast, int cousins, int from, int to, int draft) {
            return findWay(coast, coast.openBy(cousins), from, to)
                    && struckCell(coast, draft) == NONE;
        }

        /** A ship goes the way found latest, and is counted: whether it comes in. */
        boolean comesIn(Coast coast, int draft) {
            if (struckCell(coast, draft) != NONE) {
                coast.struck++;
                return false;
            }
            coast.cameIn++;
            return true;
        }
    }

    /** Lives the years of a coast, and counts what came of it. */
    private static final class Living {
        // Far above what 300 steps with empty loops among them can need.
        private static final int MOST_LINES_LIVED = 1000000;

        private final Pilot pilot = new Pilot();
        private final int[] roundsLeft = new int[MOST_LINES];
        private int drawn;
        int steps;
        int missed;
        int struck;
        int cameIn;
        int darkened;
        boolean isLeft;

        void run(Coast coast, int seed) {
            drawn = seed;
            steps = 0;
            missed = 0;
            struck = 0;
            cameIn = 0;
            darkened = 0;
            isLeft = false;
            Years years = coast.years;
            int line = 0;
            for (int i = 0; i < MOST_LINES_LIVED && years.hasLine(line) && !isLeft; i++) {
                if (years.kinds[line] == END) {
                    line = lineBehindEnd(years, line);
                } else if (steps >= MOST_STEPS_LIVED) {
                    isLeft = true;
                } else {
                    steps++;
                    if (!isDone(coast, line)) {
                        missed++;
                    }
                    line = lineBehindStep(coast, line);
                }
            }
        }

        private int lineBehindEnd(Years years, int end) {
            int beginning = years.partners[end];
            if (!years.hasLine(beginning) || years.kinds[beginning] != LOOP) {
                return end + 1;
            }
            roundsLeft[beginning]--;
            return roundsLeft[beginning] > 0 ? beginning + 1 : end + 1;
        }

        private int lineBehindStep(Coast coast, int line) {
            Years years = coast.years;
            switch (years.kinds[line]) {
                case STOP:
                    return years.lines;
                case LOOP:
                    roundsLeft[line] = years.firsts[line];
                    return line + 1;
                case WHEN_SHOWS:
                case WHEN_TAN:
                case WHEN_VEILED:
                    return holds(coast, line) ? line + 1 : years.partners[line] + 1;
                default:
                    return line + 1;
            }
        }

        private static boolean holds(Coast coast, int line) {
            Years years = coast.years;
            int cousin = years.whose[line];
            if (!coast.hasCousin(cousin)) {
                return false;
            }
            int number = years.firsts[line];
            switch (years.kinds[line]) {
                case WHEN_SHOWS:
                    return (coast.spotsOn(cousin) >> number & 1) != 0;
                case WHEN_TAN:
                    return compares(coast.tans[cousin], years.seconds[line], number);
                default:
                    return !coast.isBare(cousin);
            }
        }

        private static boolean compares(int tan, int sign, int number) {
            if (sign == '<') {
                return tan < number;
            }
            return sign == '>' ? tan > number : tan == number;
        }

        /** Does a step, unless it can't be; a when, loop, stop always can. */
        private boolean isDone(Coast coast, int line) {
            Years years = coast.years;
            int cousin = years.whose[line];
            int number = years.firsts[line];
            switch (years.kinds[line]) {
                case SUN:
                    return isDarkened(coast, cousin, number);
                case RAIN:
                    return coast.bleach(number) > 0;
                case VEIL:
                    return coast.cloak(cousin, true);
                case BARE:
                    return coast.cloak(cousin, false);
                case INK:
                    return coast.tattoo(cousin, number) == DONE;
                case WASH:
                    return coast.scrub(cousin) > 0;
                case SAIL:
                    return isSailed(coast, line);
                case ANY:
                    return isDrawnAndDone(coast);
                default:
                    return true;
            }
        }

        private boolean isDarkened(Coast coast, int cousin, int much) {
            if (!coast.darken(cousin, much)) {
                return false;
            }
            darkened++;
            return true;
        }

        private boolean isSailed(Coast coast, int line) {
            Years years = coast.years;
            if (!coast.hasCousin(years.whose[line])) {
                return false;
            }
            int open = coast.openBy(1 << years.whose[line]);
            if (!pilot.findWay(coast, open, years.firsts[line], years.seconds[line])) {
                return false;
            }
            if (pilot.comesIn(coast, years.thirds[line])) {
                cameIn++;
            } else {
                struck++;
            }
            return true;
        }

        private boolean isDrawnAndDone(Coast coast) {
            if (coast.cousins == 0) {
                return false;
            }
            int cousin = draw(coast.cousins);
            if (draw(MOST_ODDS) < coast.odds) {
                return isDarkened(coast, cousin, 1);
            }
            return coast.cloak(cousin, coast.isBare(cousin));
        }

        private int draw(int by) {
            drawn = (drawn * 2971 + 10883) % 65536;
            return by > 0 ? drawn / 8 % by : 0;
        }
    }
}
