import java.util.function.Supplier;

/**
 * What the tests of boundary cases share: answers that are told, calls that are refused, texts
 * with a FAULT, and the charts that these are tried on. BoundsTest runs them.
 */
abstract class Bounds {
    static final int MAX = Integer.MAX_VALUE;
    static final int MIN = Integer.MIN_VALUE;
    static final int NONE = FreckleChart.NONE;

    //  0  1  2  3  4     ann: 0 1 2, 5 6 7, 10 11 12
    //  5  6  7  8  9     ben: 2 3 4, 7 8 9, 12 13 14
    // 10 11 12 13 14     cyd: 10 to 14, veiled
    static final String SHORE = "coast 5 by 3; odds 8; rock 6 deep 2; rock 7 deep 5;"
            + " rock 13 deep 0; cousin ann at 0 wide 3 high 3 tan 3;"
            + " cousin ben at 2 wide 3 high 3 tan 6 inked 4; cousin cyd at 10 wide 5 high 1 veiled;";
    static final int ANN = 1;
    static final int BEN = 2;
    static final int CYD = 4;

    interface Call {
        /** The answer; of a boolean, what of() makes of it. */
        long on(FreckleChart c);
    }

    private interface Watch {
        void look(FreckleChart c, StringBuilder seen);
    }

    private static final Watch[] ALL_BUT_FRACTION = {Bounds::lookAtCoast, Bounds::lookAtTrays,
        Bounds::lookAtWhatIsTold, Bounds::lookAtTape, Bounds::lookAtYears, Bounds::lookAtNames,
        Bounds::lookAtMarks};
    private static final Watch[] ALL = {Bounds::lookAtFraction, Bounds::lookAtCoast,
        Bounds::lookAtTrays, Bounds::lookAtWhatIsTold, Bounds::lookAtTape, Bounds::lookAtYears,
        Bounds::lookAtNames, Bounds::lookAtMarks};

    FreckleChart x;
    private Expect expect;
    private BoundsTest seen;
    private String of;
    private int promise;

    /** Begins a test, on a new chart. */
    final void begin(Expect expectations, BoundsTest statuses, int number, String title) {
        expect = expectations;
        seen = statuses;
        promise = number;
        of = title;
        x = new FreckleChart();
    }

    // ---- answers

    static long of(boolean answer) {
        return answer ? 1 : NONE;
    }

    final void same(String what, long got, long due) {
        expect.same(of + ": " + what, got, due);
    }

    final void same(long got, long due) {
        same("an answer", got, due);
    }

    /** An answer that is told: STATUS 0. */
    final void told(long got, long due) {
        same("an answer", got, due);
        same("STATUS of an answer that is " + due, x.status(), 0);
    }

    final void told(boolean got) {
        told(of(got), 1);
    }

    final void fraction(long top, long bottom) {
        same("top()", x.top(), top);
        same("bottom()", x.bottom(), bottom);
    }

    static int set(int... numbers) {
        int set = 0;
        for (int number : numbers) {
            set |= 1 << number;
        }
        return set;
    }

    // ---- charts

    static FreckleChart fresh() {
        return new FreckleChart();
    }

    /** A chart on which everything has been used: only half full of all. */
    static FreckleChart shore() {
        FreckleChart c = Texts.chart(SHORE, "sail ann 0 12 6; sun ben 2; rain 1; any;");
        faultyCoast(c);
        c.tray(0, 1, 3);
        c.write(0, 0, 2);
        c.write(0, 1, 99);
        c.tray(1, 2, 60);
        c.write(1, 59, -7);
        c.write(1, 0, 20);
        c.tray(3, 1, 2);
        c.write(3, 1, 9);
        c.mark();
        c.live(4);
        c.sail(ANN, 0, 12, 5);
        c.freckled(1);
        c.mark();
        c.sun(0, 1);
        c.ink(1, 9);
        Texts.years(c, "rain 0;");
        Texts.feed(c, "odds 1;rock 3 deep 3;");
        return c;
    }

    /** A chart with as much of all as there can be; a tape of 900 bytes. */
    static FreckleChart full() {
        StringBuilder text = new StringBuilder("odds 16;");
        for (int cell = 0; cell < 15; cell++) {
            text.append("rock ").append(cell).append(" deep ").append(cell == 0 ? 9 : 1).append(';');
        }
        text.append("cousin ann at 0 wide 5 high 3 tan 9 inked 0 1 2 3 4 5;");
        text.append("cousin ben at 0 wide 1 high 1;cousin cyd at 1 wide 1 high 1 tan 9 veiled;");
        text.append("cousin dot at 0 wide 5 high 4 veiled;cousin eve at 0 wide 1 high 1;");
        text.append("cousin fay at 0 wide 1 high 1 inked 0;");
        FreckleChart c = Texts.chart(text.toString(), "any;".repeat(30));
        faultyCoast(c);
        for (int i = 0; i < 4; i++) {
            c.tray(i, i, 60);
        }
        c.mark();
        c.live(0);
        c.mark();
        c.mark();
        fillTape(c);
        return c;
    }

    static void fillTape(FreckleChart c) {
        c.feed(0x6F646473, 0x20333B20, 0x20202020, 0x20202020, 0x20202020);
        for (int i = 1; i < 45; i++) {
            c.feed(0x20202020, 0x0A202020, 0x20202020, 0x20202020, 0x2020200A);
        }
    }

    /** A coast with a fault at its end, by which nothing may become otherwise. */
    private static void faultyCoast(FreckleChart c) {
        Texts.coast(c, "coast 2 by 1; odds 0; rock 1 deep 9; cousin a at 0 wide 1 high 1 veiled;"
                + "cousin b at 0 wide 1 high 1;cousin d at 0 wide 1 high 1 tan 9 inked 0;"
                + "cousin e at 1 wide 1 high 1;cousin f at 1 wide 1 high 1; ;");
    }

    final void chart(String text) {
        x = Texts.chart(text);
        faultyCoast(x);
    }

    final void chart(String text, String years) {
        x = Texts.chart(text, years);
        faultyCoast(x);
    }

    // ---- calls that are refused

    final void refused(int status, Call call) {
        refused(status, Bounds::shore, call);
    }

    /**
     * A call that is refused: STATUS tells why, and nothing else has changed. Of two charts made
     * alike one has the call, and then both are looked at in the same way.
     */
    final void refused(int status, Supplier<FreckleChart> made, Call call) {
        seen.refused(promise, status);
        for (Watch watch : ALL) {
            FreckleChart c = made.get();
            same("a refused call (" + status + ")", call.on(c), NONE);
            same("STATUS of a refused call", c.status(), status);
            unchanged("a refused call (" + status + ")", c, made.get(), watch);
        }
    }

    /** A call that tells something, and by which nothing changes but STATUS. */
    final void changesNothing(Call call) {
        changesNothing(ALL, Bounds::shore, call);
    }

    final void changesNothing(Supplier<FreckleChart> made, Call call) {
        changesNothing(ALL, made, call);
    }

    /** Likewise, but that it tells a FRACTION. */
    final void changesTheFraction(Call call) {
        changesNothing(ALL_BUT_FRACTION, Bounds::shore, call);
    }

    private void changesNothing(Watch[] watches, Supplier<FreckleChart> made, Call call) {
        for (Watch watch : watches) {
            FreckleChart c = made.get();
            call.on(c);
            unchanged("a call that changes nothing", c, made.get(), watch);
        }
    }

    private void unchanged(String what, FreckleChart c, FreckleChart twin, Watch watch) {
        StringBuilder due = new StringBuilder();
        StringBuilder got = new StringBuilder();
        watch.look(twin, due);
        watch.look(c, got);
        same("what is otherwise behind " + what, got.toString().equals(due.toString()) ? 0 : 1, 0);
    }

    private static void see(StringBuilder seen, FreckleChart c, long answer) {
        seen.append(answer).append('/').append(c.status()).append(' ');
    }

    private static void lookAtCoast(FreckleChart c, StringBuilder seen) {
        for (int what = 0; what < 9; what++) {
            see(seen, c, c.many(what));
        }
        for (int rock = 0; rock < 15; rock++) {
            see(seen, c, c.rock(rock, 0));
            see(seen, c, c.rock(rock, 1));
        }
        for (int cousin = 0; cousin < 6; cousin++) {
            for (int what = 0; what < 7; what++) {
                see(seen, c, c.cousin(cousin, what));
            }
            see(seen, c, c.shown(cousin));
        }
        for (int cell = 0; cell < 30; cell++) {
            see(seen, c, c.deep(cell));
        }
    }

    private static void lookAtTrays(FreckleChart c, StringBuilder seen) {
        for (int tray = 0; tray < 4; tray++) {
            for (int place = 0; place < 61; place++) {
                seen.append(c.read(tray, place)).append(' ');
            }
            seen.append(c.status()).append(' ');
            // By these the sort is seen.
            for (int bits = 8; bits <= 32; bits *= 2) {
                c.write(tray, 0, 1L << bits);
                seen.append(c.read(tray, 0)).append(' ');
            }
        }
    }

    private static void lookAtFraction(FreckleChart c, StringBuilder seen) {
        seen.append(c.top()).append(' ').append(c.bottom()).append(' ');
    }

    private static void lookAtWhatIsTold(FreckleChart c, StringBuilder seen) {
        seen.append(c.fault(0)).append(' ').append(c.fault(1)).append(' ');
        for (int what = 0; what < 5; what++) {
            see(seen, c, c.lived(what));
        }
    }

    private static void lookAtTape(FreckleChart c, StringBuilder seen) {
        int taped = c.feed(0x3B3B3B3B, 0x3B3B3B3B, 0x3B3B3B3B, 0x3B3B3B3B, 0x3B3B3B3B);
        seen.append(taped).append(' ');
        see(seen, c, c.coast(taped < 0 ? 900 : taped - 20));
        seen.append(c.fault(0)).append(' ').append(c.fault(1)).append(' ');
        lookAtCoast(c, seen);
    }

    private static void lookAtYears(FreckleChart c, StringBuilder seen) {
        see(seen, c, c.live(1));
        lookAtWhatIsTold(c, seen);
        lookAtCoast(c, seen);
        see(seen, c, c.live(2));
        see(seen, c, of(c.mean(3, 2)));
        lookAtFraction(c, seen);
    }

    private static void lookAtNames(FreckleChart c, StringBuilder seen) {
        see(seen, c, c.years(0));
        for (String name : "ann ben cyd dot eve fay".split(" ")) {
            see(seen, c, Texts.years(c, "veil " + name + ";"));
            seen.append(c.fault(0)).append(' ').append(c.fault(1)).append(' ');
            see(seen, c, c.live(0));
            see(seen, c, c.many(7));
        }
    }

    private static void lookAtMarks(FreckleChart c, StringBuilder seen) {
        for (int i = 0; i < 4; i++) {
            see(seen, c, c.back());
            for (int what = 0; what < 9; what++) {
                see(seen, c, c.many(what));
            }
            for (int cousin = 0; cousin < 6; cousin++) {
                see(seen, c, c.cousin(cousin, 3));
                see(seen, c, c.cousin(cousin, 5));
                see(seen, c, c.cousin(cousin, 6));
            }
        }
        see(seen, c, c.live(1));
        lookAtWhatIsTold(c, seen);
    }

    // ---- texts

    /** A text of a coast that is taken: how many cousins. */
    final void coast(String text, int cousins) {
        x = new FreckleChart();
        told("the coast", Texts.coast(x, text), cousins);
    }

    /** Years of ann, ben that are taken: how many steps. */
    final void years(String text, int steps) {
        x = pair();
        told("the years", Texts.years(x, text), steps);
    }

    private void told(String what, int got, int due) {
        same(what, got, due);
        same("STATUS of " + what, x.status(), 0);
        same("fault(0) of " + what, x.fault(0), 0);
        same("fault(1) of " + what, x.fault(1), NONE);
    }

    /** Ann has the 20 cells of the coast, ben has cell 0; there are two steps of years. */
    static FreckleChart pair() {
        FreckleChart c = Texts.chart("cousin ann at 0 wide 5 high 4; cousin ben at 0 wide 1 high 1;",
                "sun ann 2; stop;");
        c.mark();
        c.sun(0, 1);
        return c;
    }

    /**
     * A coast with a FAULT, whose place is where the sign | stands in the text (which is left
     * out). But for the tape, which is empty then, and what fault() tells, nothing has changed.
     */
    final void coastFault(int fault, String marked) {
        String text = marked.replace("|", "");
        faulty(fault, marked.indexOf('|'), c -> Texts.coast(c, text));
    }

    final void yearsFault(int fault, String marked) {
        String text = marked.replace("|", "");
        faulty(fault, marked.indexOf('|'), c -> Texts.years(c, text));
    }

    final void faulty(int fault, int place, Call call) {
        seen.refused(promise, 10);
        String what = "a text with FAULT " + fault + " at " + place;
        FreckleChart first = pair();
        same(what, call.on(first), NONE);
        same("the tape behind " + what, first.feed(0, 0, 0, 0, 0), 20);
        for (Watch watch : ALL) {
            FreckleChart c = pair();
            FreckleChart twin = pair();
            same(what, call.on(c), NONE);
            same("STATUS of " + what, c.status(), 10);
            same("fault(0) of " + what, c.fault(0), fault);
            same("fault(1) of " + what, c.fault(1), place);
            // The twin tells the same FAULT, and is what it was ahead of it by its mark.
            call.on(twin);
            twin.back();
            twin.mark();
            twin.sun(0, 1);
            unchanged(what, c, twin, watch);
        }
    }
}
