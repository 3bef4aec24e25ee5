/** Each promise of the document by its number: ordinary calls, the edges, wrong ones. */
final class PromisesTest {
    //  0  1  2  3  4     ann: 0 1 2, 5 6 7, 10 11 12
    //  5  6  7  8  9     ben: 2 3 4, 7 8 9, 12 13 14
    // 10 11 12 13 14     cyd: 10 to 14, veiled
    private static final String SHORE = "coast 5 by 3; odds 8; rock 6 deep 2; rock 7 deep 5;"
            + " rock 13 deep 0; cousin ann at 0 wide 3 high 3 tan 3;"
            + " cousin ben at 2 wide 3 high 3 tan 6 inked 4; cousin cyd at 10 wide 5 high 1 veiled;";
    private static final int ANN = 1;
    private static final int BEN = 2;
    private static final int CYD = 4;
    private static final int MAX = Integer.MAX_VALUE;
    private static final int MIN = Integer.MIN_VALUE;

    private final Expect expect = new Expect();
    private FreckleChart x;
    private int promise;

    public static void main(String[] args) {
        PromisesTest t = new PromisesTest();
        t.newObject();
        t.trays();
        t.texts();
        t.coastAgain();
        t.looks();
        t.deeds();
        t.voyages();
        t.ways();
        t.fewestAndDeepest();
        t.spots();
        t.seen();
        t.games();
        t.odds();
        t.years();
        t.marks();
        t.expect.end("PromisesTest");
    }

    private void at(int number) {
        promise = number;
    }

    private void shore() {
        x = Texts.chart(SHORE);
    }

    /** An answer that is told: STATUS 0. */
    private void told(long got, long due) {
        expect.same("promise " + promise, got, due);
        expect.same("promise " + promise + " (" + due + "): STATUS", x.status(), 0);
    }

    private void told(boolean got) {
        told(got ? 1 : 0, 1);
    }

    private void refused(long got, int status) {
        expect.same("promise " + promise + " refused", got, FreckleChart.NONE);
        expect.same("promise " + promise + " refused: STATUS", x.status(), status);
    }

    private void refused(boolean got, int status) {
        refused(got ? 1 : FreckleChart.NONE, status);
    }

    private void same(long got, long due) {
        expect.same("promise " + promise, got, due);
    }

    private void fraction(long top, long bottom) {
        expect.same("promise " + promise + ": top()", x.top(), top);
        expect.same("promise " + promise + ": bottom()", x.bottom(), bottom);
    }

    private static int cells(int... cells) {
        int set = 0;
        for (int cell : cells) {
            set |= 1 << cell;
        }
        return set;
    }

    private void newObject() {
        at(1);
        x = new FreckleChart();
        same(FreckleChart.NONE, -1);
        same(x.status(), 0);
        fraction(0, 1);
        same(x.fault(0), -1);
        for (int tray = 0; tray < 4; tray++) {
            refused(x.read(tray, 0), 3);
        }
        told(x.many(0), 5);
        told(x.many(1), 4);
        told(x.many(2), 0);
        told(x.many(3), 0);
        told(x.many(4), 8);
        told(x.many(5), 0);
        told(x.many(6), 0);
        told(x.many(7), 0);
        told(x.many(8), 0);
        refused(x.coast(1), 5);
        refused(x.live(0), 8);
        refused(x.back(), 8);

        at(2);
        x = new FreckleChart();
        same(x.status(), 0);
        refused(x.deep(20), 2);
        same(x.status(), 2);
        x.top();
        x.bottom();
        x.fault(7);
        x.feed(0, 0, 0, 0, 0);
        same(x.status(), 2);
        told(x.game(0), 0);

        at(3);
        shore();
        fraction(0, 1);
        told(x.freckled(0));
        same(x.top(), 1);
        refused(x.freckled(9), 2);
        same(x.top(), 1);
        at(4);
        same(x.bottom(), 9);
        told(x.freckled(2));
        same(x.bottom(), 1);
    }

    private void trays() {
        at(5);
        x = new FreckleChart();
        told(x.tray(0, 0, 60));
        told(x.tray(3, 3, 0));
        refused(x.read(3, 0), 4);
        told(x.read(0, 59), 0);
        told(x.write(0, 59, 7));
        refused(x.tray(0, 0, 61), 5);
        refused(x.tray(0, 1, -1), 6);
        refused(x.tray(0, -1, -1), 1);
        refused(x.tray(0, 4, 1), 1);
        refused(x.tray(-1, 0, 61), 1);
        refused(x.tray(4, 0, MIN), 1);
        told(x.read(0, 59), 7);
        told(x.write(0, 0, 7));
        told(x.tray(0, 2, 60));
        told(x.read(0, 0), 0);
        told(x.read(0, 59), 0);

        at(6);
        long wide = 0x123456789ABCDEF0L;
        long[] cut = {(byte) 0xF0, (short) 0xDEF0, 0x9ABCDEF0, wide};
        for (int sort = 0; sort < 4; sort++) {
            told(x.tray(sort, sort, 2));
            told(x.write(sort, 1, wide));
            told(x.read(sort, 1), cut[sort]);
            told(x.read(sort, 0), 0);
            told(x.write(sort, 0, Long.MIN_VALUE));
            told(x.read(sort, 0), sort == 3 ? Long.MIN_VALUE : 0);
        }
        refused(x.write(1, 2, 1), 4);
        refused(x.write(1, -1, 1), 4);
        refused(x.write(1, MAX, 1), 4);
        refused(x.write(4, 0, 1), 1);
        refused(x.write(-1, 0, 1), 1);
        x = new FreckleChart();
        refused(x.write(1, 5, 1), 3);

        at(7);
        refused(x.read(1, 0), 3);
        refused(x.read(-1, 0), 1);
        told(x.tray(1, 0, 1));
        told(x.write(1, 0, -1));
        told(x.read(1, 0), -1);
        refused(x.read(1, 1), 4);
        refused(x.read(1, MIN), 4);
        pours();
    }

    private void pours() {
        at(8);
        x = new FreckleChart();
        told(x.tray(0, 1, 5));
        told(x.tray(1, 1, 3));
        told(x.tray(2, 2, 3));
        for (int i = 0; i < 5; i++) {
            told(x.write(0, i, 10 + i));
        }
        told(x.pour(0, 3, 1, 1, 2));
        told(x.read(1, 0), 0);
        told(x.read(1, 1), 13);
        told(x.read(1, 2), 14);
        told(x.pour(0, 0, 0, 1, 4));
        long[] upwards = {10, 10, 11, 12, 13};
        for (int i = 0; i < 5; i++) {
            told(x.read(0, i), upwards[i]);
        }
        told(x.pour(0, 2, 0, 0, 3));
        long[] downwards = {11, 12, 13, 12, 13};
        for (int i = 0; i < 5; i++) {
            told(x.read(0, i), downwards[i]);
        }
        told(x.pour(0, 5, 1, 3, 0));
        told(x.tray(3, 1, 0));
        told(x.pour(3, 0, 3, 0, 0));
        told(x.pour(0, 0, 3, 0, 0));
        told(x.pour(3, 0, 0, 0, 0));
        refused(x.pour(3, 0, 0, 0, 1), 4);
        refused(x.pour(0, 0, 3, 0, 1), 4);
        refused(x.pour(0, 6, 1, 0, 0), 4);
        refused(x.pour(0, 0, 1, 4, 0), 4);
        refused(x.pour(0, 0, 1, 0, 4), 4);
        refused(x.pour(0, 3, 1, 0, 3), 4);
        refused(x.pour(0, -1, 1, 0, 1), 4);
        refused(x.pour(0, 0, 1, -1, 1), 4);
        refused(x.pour(0, MAX, 1, 0, 1), 4);
        refused(x.pour(0, 1, 1, 1, MAX), 4);
        refused(x.pour(0, MIN, 1, 0, -1), 6);
        refused(x.pour(0, 0, 2, 0, -1), 11);
        refused(x.pour(0, 9, 2, 9, 9), 11);
        told(x.read(1, 1), 13);
        x = new FreckleChart();
        told(x.tray(0, 1, 5));
        refused(x.pour(0, 9, 3, 9, -1), 3);
        refused(x.pour(3, 9, 0, 9, -1), 3);
        refused(x.pour(3, 0, 4, 0, 1), 1);
        refused(x.pour(-1, 0, 3, 0, 1), 1);
    }

    private void texts() {
        at(9);
        x = new FreckleChart();
        for (int i = 1; i <= 45; i++) {
            same(x.feed(0x20202020, 0x20202020, 0x20202020, 0x20202020, 0x0A0A0A0A), 20 * i);
        }
        same(x.feed(0, 0, 0, 0, 0), -1);
        same(x.status(), 0);
        told(x.coast(900), 0);
        // "odds 3;" and 13 blanks: the highest byte of each int first.
        same(x.feed(0x6F646473, 0x20333B20, 0x20202020, 0x20202020, 0x20202020), 20);
        told(x.coast(7), 0);
        told(x.many(4), 3);

        at(10);
        shore();
        told(x.sail(ANN, 0, 12, 1), 1);
        Texts.years(x, "stop;");
        Texts.feed(x, "coast 6 by 5; cousin al at 29 wide 1 high 1; odds 16;");
        refused(x.coast(61), 5);
        refused(x.coast(-1), 5);
        refused(x.coast(MAX), 5);
        told(x.coast(45), 1);
        told(x.many(0), 6);
        told(x.many(1), 5);
        told(x.many(2), 0);
        told(x.many(3), 1);
        told(x.many(4), 8);
        told(x.many(6), 0);
        told(x.cousin(0, 6), 1 << 29);
        refused(x.live(0), 8);
        refused(x.coast(1), 5);
        same(Texts.coast(x, "odds 17;"), -1);
        same(x.status(), 10);
        told(x.many(0), 6);
        refused(x.coast(1), 5);
        told(x.coast(0), 0);
        told(x.many(0), 5);
        told(x.many(3), 0);

        at(11);
        shore();
        same(Texts.years(x, "rain 1; stop;"), 2);
        same(x.status(), 0);
        told(x.live(0), 2);
        Texts.feed(x, "rain 1;");
        refused(x.years(21), 5);
        refused(x.years(-1), 5);
        told(x.years(7), 1);
        refused(x.years(1), 5);
        same(Texts.years(x, "rain 10;"), -1);
        same(x.status(), 10);
        refused(x.years(1), 5);
        told(x.live(0), 1);
        same(Texts.years(x, "any;" + " ".repeat(296)), 1);
        Texts.feed(x, "any;" + " ".repeat(297));
        refused(x.years(301), 5);
        told(x.years(300), 1);
        told(x.years(0), 0);
        told(x.live(0), 0);

        at(12);
        x = new FreckleChart();
        same(x.fault(0), -1);
        same(x.fault(1), -1);
        x.coast(5);
        same(x.fault(0), -1);
        told(x.coast(0), 0);
        same(x.fault(0), 0);
        same(x.fault(1), -1);
        same(Texts.coast(x, "odds\n99;"), -1);
        same(x.fault(0), 4);
        same(x.fault(1), 5);
        same(x.fault(2), -1);
        same(x.fault(-1), -1);
        same(x.status(), 10);
        x.years(5);
        same(x.fault(0), 4);
        same(Texts.years(x, "rain 9"), -1);
        same(x.fault(0), 2);
        same(x.fault(1), 6);
        told(x.years(0), 0);
        same(x.fault(0), 0);
        same(x.fault(1), -1);
    }

    /** Nothing of the coast ahead is left in the new one. */
    private void coastAgain() {
        at(10);
        x = Texts.chart(SHORE, "sail ann 0 0 1; sail ann 7 7 6;");
        told(x.ink(0, 2), 1);
        told(x.live(0), 2);
        told(x.veil(0, true));
        told(x.mean(0, 2));
        same(Texts.coast(x, "rock 1 deep 3; cousin ann at 1 wide 2 high 1;"), 1);
        int[] many = {5, 4, 1, 1, 8, 0, 0, 0, cells(1)};
        for (int what = 0; what < many.length; what++) {
            told(x.many(what), many[what]);
        }
        int[] ann = {1, 2, 1, 0, 0, 0, cells(1, 2)};
        for (int what = 0; what < ann.length; what++) {
            told(x.cousin(0, what), ann[what]);
        }
        refused(x.deep(6), 8);
        told(x.shown(0), 0);
        told(x.coast(0), 0);
        told(x.many(7), 0);
        told(x.many(8), 0);
        told(x.born(0, 5, 4), 0);
        told(x.cousin(0, 3), 0);
        told(x.cousin(0, 5), 0);
        told(x.shown(0), 0);
        same(Texts.years(x, "loop 1; loop 1; loop 1;"), -1);
        same(Texts.years(x, "loop 1; end;"), 1);
    }

    private void looks() {
        at(13);
        shore();
        int[] many = {5, 3, 3, 3, 8, 0, 0, CYD, cells(6, 7, 13)};
        for (int what = 0; what < many.length; what++) {
            told(x.many(what), many[what]);
        }
        x.sail(ANN, 0, 12, 10);
        x.sail(ANN, 0, 12, 10);
        x.sail(ANN, 0, 0, 10);
        told(x.many(5), 2);
        told(x.many(6), 1);
        refused(x.many(9), 5);
        refused(x.many(-1), 5);

        at(14);
        told(x.rock(0, 0), 6);
        told(x.rock(2, 0), 13);
        told(x.rock(1, 1), 5);
        refused(x.rock(3, 9), 2);
        refused(x.rock(-1, 0), 2);
        refused(x.rock(0, 2), 5);
        refused(x.rock(0, -1), 5);

        at(15);
        told(x.deep(7), 5);
        told(x.deep(13), 0);
        refused(x.deep(8), 8);
        refused(x.deep(15), 2);
        refused(x.deep(-1), 2);

        at(16);
        int[] ben = {2, 3, 3, 6, 0, cells(4), cells(2, 3, 4, 7, 8, 9, 12, 13, 14)};
        int[] cyd = {10, 5, 1, 0, 1, 0, cells(10, 11, 12, 13, 14)};
        for (int what = 0; what < 7; what++) {
            told(x.cousin(1, what), ben[what]);
            told(x.cousin(2, what), cyd[what]);
        }
        refused(x.cousin(0, 7), 5);
        refused(x.cousin(0, -1), 5);
        refused(x.cousin(3, 9), 2);
        refused(x.cousin(-1, 0), 2);

        at(17);
        told(x.shown(0), cells(6));
        told(x.shown(1), cells(4, 7, 13));
        told(x.shown(2), 0);
        told(x.veil(1, true));
        told(x.shown(1), 0);
        refused(x.shown(3), 2);

        at(18);
        refused(x.copyTan(-1), 1);
        refused(x.copyTan(4), 1);
        refused(x.copyTan(0), 3);
        told(x.tray(0, 0, 2));
        refused(x.copyTan(0), 4);
        told(x.read(0, 0), 0);
        told(x.tray(0, 0, 4));
        told(x.write(0, 3, 77));
        told(x.copyTan(0), 3);
        told(x.read(0, 0), 3);
        told(x.read(0, 1), 6);
        told(x.read(0, 2), 0);
        told(x.read(0, 3), 77);
    }

    private void deeds() {
        at(19);
        shore();
        told(x.sun(0, 1), 4);
        told(x.sun(0, 9), 9);
        refused(x.sun(0, 1), 9);
        refused(x.sun(2, 1), 9);
        refused(x.sun(1, 0), 5);
        refused(x.sun(2, 10), 5);
        refused(x.sun(3, 0), 2);
        told(x.cousin(1, 3), 6);

        at(20);
        shore();
        told(x.rain(4), 2);
        told(x.cousin(0, 3), 0);
        told(x.cousin(1, 3), 2);
        told(x.rain(9), 1);
        told(x.rain(1), 0);
        refused(x.rain(0), 5);
        refused(x.rain(10), 5);
        x = Texts.chart("cousin al at 0 wide 1 high 1 tan 5 veiled;");
        told(x.rain(5), 0);
        told(x.cousin(0, 3), 5);
        x = Texts.chart("cousin al at 0 wide 1 high 1 tan 1;");
        told(x.rain(1), 1);
        told(x.cousin(0, 3), 0);

        at(21);
        shore();
        told(x.veil(0, true));
        told(x.many(7), ANN | CYD);
        refused(x.veil(0, true), 9);
        refused(x.veil(1, false), 9);
        told(x.veil(2, false));
        told(x.cousin(2, 4), 0);
        refused(x.veil(3, true), 2);
        refused(x.veil(-1, true), 2);
        inks();
        rocksAndBirths();
    }

    private void inks() {
        at(22);
        shore();
        told(x.ink(2, 14), 1);
        told(x.cousin(2, 5), cells(14));
        refused(x.ink(2, 9), 9);
        refused(x.ink(2, 14), 9);
        refused(x.ink(0, 15), 2);
        refused(x.ink(0, -1), 2);
        refused(x.ink(3, 0), 2);
        int[] six = {0, 1, 2, 5, 6, 7};
        for (int i = 0; i < 6; i++) {
            told(x.ink(0, six[i]), i + 1);
        }
        refused(x.ink(0, 10), 7);
        refused(x.ink(0, 0), 7);
        refused(x.ink(0, 14), 7);
        told(x.shown(0), cells(six));

        at(23);
        told(x.wash(0), 6);
        told(x.cousin(0, 5), 0);
        refused(x.wash(0), 9);
        refused(x.wash(3), 2);
        told(x.wash(2), 1);
    }

    private void rocksAndBirths() {
        at(24);
        shore();
        told(x.wreck(0, 0), 3);
        told(x.rock(3, 0), 0);
        told(x.deep(0), 0);
        told(x.shown(0), cells(0, 6));
        refused(x.wreck(0, 3), 9);
        refused(x.wreck(1, 10), 5);
        refused(x.wreck(6, -1), 5);
        refused(x.wreck(15, 99), 2);
        refused(x.wreck(-1, 0), 2);
        int[] more = {1, 2, 3, 4, 5, 8, 9, 10, 11, 12, 14};
        for (int i = 0; i < more.length; i++) {
            told(x.wreck(more[i], 9), 4 + i);
        }
        refused(x.wreck(0, 0), 7);
        told(x.many(2), 15);

        at(26);
        shore();
        told(x.born(13, 2, 1), 3);
        told(x.cousin(3, 0), 13);
        told(x.cousin(3, 1), 2);
        told(x.cousin(3, 2), 1);
        told(x.cousin(3, 3), 0);
        told(x.cousin(3, 4), 0);
        told(x.cousin(3, 5), 0);
        told(x.cousin(3, 6), cells(13, 14));
        refused(x.born(15, 1, 1), 2);
        refused(x.born(-1, 0, 0), 2);
        refused(x.born(13, 3, 1), 5);
        refused(x.born(13, 1, 2), 5);
        refused(x.born(0, 0, 1), 5);
        refused(x.born(0, 1, 0), 5);
        refused(x.born(0, MAX, 1), 5);
        refused(x.born(1, 1, MAX), 5);
        told(x.born(0, 5, 3), 4);
        told(x.born(0, 1, 1), 5);
        refused(x.born(0, 6, 1), 5);
        refused(x.born(0, 1, 1), 7);
        told(x.many(3), 6);

        at(27);
        told(x.rule(0));
        told(x.many(4), 0);
        told(x.rule(16));
        told(x.many(4), 16);
        refused(x.rule(17), 5);
        refused(x.rule(-1), 5);
        told(x.many(4), 16);
    }

    private void voyages() {
        at(25);
        shore();
        // By ann 0 1 2 7 12, where 7 is 5 deep.
        told(x.sail(ANN, 0, 12, 5), 1);
        told(x.sail(ANN, 0, 12, 6), 0);
        told(x.many(5), 1);
        told(x.many(6), 1);
        // By both a spot shows in 7; there is another way.
        told(x.sail(ANN | BEN, 0, 12, 10), 1);
        told(x.sail(ANN, 7, 7, 6), 0);
        told(x.sail(ANN, 7, 7, 5), 1);
        refused(x.sail(ANN, 0, 3, 1), 8);
        refused(x.sail(CYD, 10, 11, 1), 8);
        refused(x.sail(0, 0, 0, 1), 8);
        refused(x.sail(ANN, 0, 12, 0), 5);
        refused(x.sail(ANN, 0, 12, 11), 5);
        refused(x.sail(8, 0, 12, 1), 5);
        refused(x.sail(-1, 0, 12, 1), 5);
        refused(x.sail(8, 0, 15, 0), 2);
        refused(x.sail(8, -1, 0, 0), 2);
        told(x.many(5), 2);
        told(x.many(6), 3);

        at(28);
        told(x.charted(0), 0);
        told(x.charted(ANN), cells(0, 1, 2, 5, 6, 7, 10, 11, 12));
        told(x.charted(7), (1 << 15) - 1);
        told(x.charted(CYD), 0);
        refused(x.charted(8), 5);
        refused(x.charted(-1), 5);

        at(29);
        told(x.open(0), 0);
        told(x.open(ANN), cells(0, 1, 2, 5, 7, 10, 11, 12));
        told(x.open(BEN), cells(2, 3, 8, 9, 12, 14));
        told(x.open(ANN | BEN), (1 << 15) - 1 - cells(4, 6, 7, 13));
        told(x.open(CYD), 0);
        told(x.open(ANN | CYD), x.open(ANN));
        refused(x.open(8), 5);
        refused(x.open(MIN), 5);
    }

    private void ways() {
        at(30);
        shore();
        told(x.way(ANN, 0, 12), 5);
        told(x.way(ANN, 0, 0), 1);
        told(x.way(ANN | BEN, 2, 14), 5);
        refused(x.way(ANN, 6, 6), 8);
        refused(x.way(ANN, 0, 6), 8);
        refused(x.way(ANN, 0, 4), 8);
        refused(x.way(0, 0, 0), 8);
        refused(x.way(8, 0, 0), 5);
        refused(x.way(8, 0, 15), 2);
        refused(x.way(8, -1, 0), 2);
        // The side of a row is not beside the next row's other side.
        x = Texts.chart("coast 3 by 2; cousin al at 0 wide 3 high 2;");
        told(x.way(1, 2, 3), 4);
        told(x.way(1, 3, 2), 4);
        x = Texts.chart("coast 2 by 5; cousin al at 0 wide 2 high 5;");
        told(x.way(1, 0, 8), 5);
        told(x.way(1, 1, 2), 3);
        told(x.way(1, 2, 1), 3);
        told(x.way(1, 7, 8), 3);
        told(x.way(1, 8, 7), 3);
        // The edges are those of the coast that is there now.
        same(Texts.coast(x, "coast 6 by 2; cousin al at 0 wide 6 high 2;"), 1);
        told(x.way(1, 0, 5), 6);
        told(x.way(1, 11, 6), 6);
        told(x.way(1, 5, 6), 7);
        told(x.way(1, 6, 5), 7);

        at(31);
        shore();
        int[] byAnn = {0, 1, 2, 7, 12};
        int[] byBoth = {0, 5, 10, 11, 12};
        int[] home = {12, 7, 2, 1, 0};
        for (int k = 0; k < 5; k++) {
            told(x.wayAt(ANN, 0, 12, k), byAnn[k]);
            told(x.wayAt(ANN | BEN, 0, 12, k), byBoth[k]);
            told(x.wayAt(ANN, 12, 0, k), home[k]);
        }
        refused(x.wayAt(ANN, 0, 12, 5), 8);
        refused(x.wayAt(ANN, 0, 12, -1), 8);
        refused(x.wayAt(ANN, 0, 6, 0), 8);
        refused(x.wayAt(-1, 0, 6, 0), 5);
        refused(x.wayAt(-1, 0, 15, 0), 2);

        at(32);
        told(x.strikes(ANN, 0, 12, 6), 7);
        told(x.strikes(ANN, 0, 12, 10), 7);
        refused(x.strikes(ANN, 0, 12, 5), 8);
        refused(x.strikes(ANN, 0, 6, 10), 8);
        refused(x.strikes(ANN, 0, 12, 0), 5);
        refused(x.strikes(ANN, 0, 12, 11), 5);
        refused(x.strikes(8, 0, 12, 1), 5);
        refused(x.strikes(8, 0, -1, 11), 2);
        told(x.many(5), 0);
        // The first along the way, not the least as a number.
        x = Texts.chart("coast 3 by 1; rock 0 deep 0; rock 2 deep 3; cousin al at 0 wide 3 high 1;");
        told(x.strikes(1, 2, 0, 4), 2);
        told(x.strikes(1, 2, 0, 3), 0);
    }

    private void fewestAndDeepest() {
        at(33);
        shore();
        told(x.fewest(0, 12, 5), 1);
        told(x.fewest(0, 12, 6), 2);
        told(x.fewest(3, 2, 10), 1);
        refused(x.fewest(0, 4, 1), 8);
        refused(x.fewest(0, 12, 0), 5);
        refused(x.fewest(0, 12, 11), 5);
        refused(x.fewest(15, 12, 0), 2);
        refused(x.fewest(0, -1, 0), 2);

        at(34);
        told(x.fewestSet(0, 12, 5), ANN);
        told(x.fewestSet(0, 12, 6), ANN | BEN);
        told(x.fewestSet(12, 12, 10), ANN);
        told(x.fewestSet(3, 2, 10), BEN);
        refused(x.fewestSet(0, 4, 1), 8);
        refused(x.fewestSet(0, 4, 11), 5);
        refused(x.fewestSet(0, 15, 11), 2);
        x = new FreckleChart();
        refused(x.fewestSet(0, 0, 1), 8);
        shore();

        at(35);
        told(x.deepest(ANN, 0, 12), 5);
        told(x.deepest(ANN | BEN, 0, 12), 10);
        refused(x.deepest(ANN, 0, 6), 8);
        refused(x.deepest(8, 0, 6), 5);
        refused(x.deepest(8, 15, 6), 2);
        x = Texts.chart("coast 2 by 1; rock 1 deep 1; cousin al at 0 wide 2 high 1;");
        told(x.deepest(1, 0, 1), 1);
        // Nobody pale sees a rock of depth 0; no ship goes over it.
        x = Texts.chart("coast 2 by 1; rock 1 deep 0; cousin al at 0 wide 2 high 1;");
        refused(x.deepest(1, 0, 1), 8);
        told(x.way(1, 0, 1), 2);
    }

    private void spots() {
        at(36);
        shore();
        told(x.wants(0), 3);
        told(x.wants(1), 0);
        told(x.wants(2), 1);
        told(x.ink(0, 7), 1);
        told(x.wants(0), 3);
        told(x.wreck(0, 9), 3);
        refused(x.wants(0), 9);
        told(x.wants(1), 0);
        refused(x.wants(3), 2);
        x = Texts.chart("cousin al at 0 wide 2 high 1; rock 1 deep 8;");
        told(x.wants(0), 9);

        at(37);
        shore();
        told(x.forged(0), 0);
        told(x.forged(1), 1);
        told(x.ink(1, 13), 2);
        told(x.forged(1), 1);
        told(x.wreck(4, 9), 3);
        told(x.forged(1), 0);
        refused(x.forged(3), 2);

        at(38);
        shore();
        told(x.parted(0, 1), cells(7));
        told(x.parted(1, 0), cells(7));
        told(x.parted(1, 2), cells(13));
        told(x.parted(0, 2), 0);
        told(x.sun(0, 9), 9);
        told(x.parted(0, 1), 0);
        refused(x.parted(1, 1), 5);
        refused(x.parted(3, 3), 2);
        refused(x.parted(0, -1), 2);

        at(39);
        shore();
        told(x.cover(), 2);
        told(x.born(5, 5, 2), 3);
        told(x.cover(), 1);
        told(x.wreck(3, 9), 3);
        told(x.wreck(10, 9), 4);
        told(x.cover(), 2);
        x = Texts.chart("rock 0 deep 1; cousin al at 1 wide 1 high 1;");
        refused(x.cover(), 8);

        at(40);
        refused(x.coverSet(), 8);
        x = new FreckleChart();
        told(x.cover(), 0);
        told(x.coverSet(), 0);
        shore();
        told(x.coverSet(), ANN | BEN);
        told(x.veil(1, true));
        told(x.coverSet(), ANN | BEN);
        told(x.born(5, 5, 2), 3);
        told(x.coverSet(), 8);
    }

    private void places(int... places) {
        x.tray(0, 0, places.length);
        for (int i = 0; i < places.length; i++) {
            x.write(0, i, places[i]);
        }
    }

    private void seen() {
        at(41);
        shore();
        places(3, 2, 2, 4, -1);
        told(x.fits(0, 0, 2, 2), 1);
        told(x.fits(0, 1, 2, 2), 1);
        told(x.fits(0, 2, 2, 2), 1);
        told(x.fits(0, 3, 2, 2), 1);
        told(x.fits(0, 0, 1, 1), 12);
        told(x.fits(0, 0, 6, 1), 0);
        told(x.fits(0, 0, 1, 5), 0);
        refused(x.fits(0, 4, 2, 2), 5);
        refused(x.fits(0, 5, 6, 5), 5);
        refused(x.fits(0, -1, 2, 2), 5);
        refused(x.fits(0, 6, 7, 2), 4);
        refused(x.fits(0, 1, 0, 2), 5);
        refused(x.fits(0, 1, 7, 2), 5);
        refused(x.fits(0, 1, 2, 0), 5);
        refused(x.fits(0, 1, 2, 6), 5);
        refused(x.fits(1, 99, 0, 0), 3);
        refused(x.fits(4, 1, 2, 2), 1);
        places(-1);
        refused(x.fits(0, 1, 1, 1), 5);
        places(1, 5, 6);
        told(x.fits(0, 0, 3, 2), 0);
        told(x.fits(0, 2, 3, 2), 0);
        refused(x.fits(0, 3, 3, 2), 5);
        places(4);
        told(x.fits(0, 1, 3, 2), 0);
        places(5, 0, 1, 3);
        told(x.fits(0, 3, 3, 2), 1);
        told(x.fitsAt(0, 3, 3, 2, 0), 6);
        refused(x.fitsAt(0, 3, 3, 2, 1), 8);
        refused(x.fitsAt(0, 4, 3, 2, 0), 8);
        places(new int[30]);
        told(x.fits(0, 20, 2, 2), 0);
        refused(x.fits(0, 21, 2, 2), 5);
        refused(x.fits(0, 31, 2, 2), 4);

        at(42);
        places(2);
        told(x.fits(0, 1, 2, 2), 2);
        told(x.fitsAt(0, 1, 2, 2, 0), 2);
        told(x.fitsAt(0, 1, 2, 2, 1), 8);
        refused(x.fitsAt(0, 1, 2, 2, 2), 8);
        refused(x.fitsAt(0, 1, 2, 2, -1), 8);
        refused(x.fitsAt(0, 1, 2, 9, -1), 5);
        refused(x.fitsAt(0, 2, 2, 9, -1), 4);
        refused(x.fitsAt(1, 2, 2, 9, -1), 3);
        refused(x.fitsAt(-1, 2, 2, 9, -1), 1);

        at(43);
        // Of 8 beginnings 1, 2, 3, 2 have a rock in places 0 to 3: 0 1 5 6, 1 2 6 7 and so on.
        told(x.ask(2, 2), 2);
        told(x.ask(1, 1), 0);
        refused(x.ask(5, 3), 8);
        refused(x.ask(6, 1), 8);
        refused(x.ask(0, 1), 5);
        refused(x.ask(7, 1), 5);
        refused(x.ask(1, 0), 5);
        refused(x.ask(1, 6), 5);
        // In 2 of 4 a rock in place 0, in 2 of 4 in place 1: the first counts.
        x = Texts.chart("coast 5 by 1; rock 0 deep 9; rock 2 deep 9;");
        told(x.ask(2, 1), 0);
        // 0 of 2 have a rock in place 0, 1 of 2 in place 3.
        x = Texts.chart("coast 5 by 1; rock 3 deep 9;");
        told(x.ask(4, 1), 2);
        x = Texts.chart("coast 3 by 3; rock 8 deep 9;");
        told(x.ask(3, 2), 5);
        told(x.ask(2, 3), 5);
        // Rocks that no beginning has in that place count for nothing.
        x = Texts.chart("coast 4 by 2; rock 3 deep 0; rock 6 deep 0; rock 7 deep 0;");
        told(x.ask(3, 2), 2);
        told(x.ask(1, 2), 1);
    }

    private void games() {
        at(44);
        shore();
        told(x.game(0), 3);
        told(x.game(1), 3);
        // The rain takes ben from 6 to 4: 7 no more.
        told(x.game(2), 2);
        told(x.game(4), 2);
        refused(x.game(5), 5);
        refused(x.game(-1), 5);
        told(x.cousin(0, 3), 3);
        told(x.cousin(1, 3), 6);
        // The rain takes 2 from one who has so many, and 1 from one who has 1.
        x = Texts.chart("coast 1 by 1; rock 0 deep 0; cousin al at 0 wide 1 high 1;");
        told(x.game(1), 1);
        told(x.game(2), 0);
        told(x.game(3), 1);
        told(x.sun(0, 1), 1);
        told(x.game(2), 0);
        told(x.sun(0, 1), 2);
        told(x.game(2), 1);
        told(x.game(4), 0);
        told(x.sun(0, 1), 3);
        told(x.game(4), 1);
        // Ink counts where there is a rock; elsewhere it does not.
        x = Texts.chart("coast 2 by 1; rock 0 deep 9; cousin al at 0 wide 2 high 1 inked 0 1;");
        told(x.game(0), 1);
        told(x.veil(0, true));
        told(x.game(3), 0);

        at(45);
        x = Texts.chart("coast 3 by 1; rock 0 deep 0; rock 2 deep 0;"
                + " cousin al at 1 wide 1 high 1; cousin bo at 2 wide 1 high 1;"
                + " cousin cy at 0 wide 1 high 1;");
        told(x.moveOf(1), 1);
        told(x.moveOf(3), 0);
        told(x.game(1), 1);
        told(x.veil(1, true));
        told(x.moveOf(1), 2);
        refused(x.moveOf(0), 5);
        refused(x.moveOf(5), 5);
        told(x.veil(2, true));
        told(x.moveOf(4), 0);
        told(x.sun(0, 9), 9);
        refused(x.moveOf(1), 8);
    }

    private void odds() {
        at(46);
        // Both patches hold 7; 6 is ann's alone, 13 ben's.
        shore();
        told(x.infant(0, 1, 0));
        fraction(1, 1);
        told(x.infant(0, 1, 1));
        fraction(1, 1);
        told(x.infant(1, 0, 2));
        fraction(3, 4);
        told(x.rule(0));
        told(x.infant(0, 1, 3));
        fraction(1, 4);
        told(x.infant(0, 1, 4));
        fraction(0, 1);
        told(x.infant(0, 1, 3));
        refused(x.infant(0, 1, -1), 5);
        refused(x.infant(0, 1, 16), 5);
        refused(x.infant(1, 1, 0), 5);
        refused(x.infant(3, 3, 16), 2);
        refused(x.infant(0, -1, 16), 2);
        fraction(1, 4);
        told(x.infant(0, 1, 15));
        fraction(0, 1);

        at(47);
        shore();
        told(x.rule(4));
        told(x.fades(1, 0));
        fraction(1, 1);
        told(x.fades(1, 1));
        fraction(7, 16);
        told(x.fades(1, 2));
        fraction(1, 16);
        told(x.fades(1, 3));
        fraction(0, 1);
        told(x.fades(2, 1));
        fraction(0, 1);
        told(x.rule(16));
        told(x.fades(1, 2));
        fraction(1, 1);
        refused(x.fades(1, 16), 5);
        refused(x.fades(1, -1), 5);
        refused(x.fades(3, 16), 2);
        fifteenRocks();

        at(48);
        shore();
        told(x.freckled(1));
        fraction(1, 3);
        told(x.freckled(0));
        fraction(1, 9);
        told(x.freckled(2));
        fraction(0, 1);
        refused(x.freckled(-1), 2);
        refused(x.freckled(3), 2);
    }

    private void fifteenRocks() {
        StringBuilder text = new StringBuilder("odds 1;");
        for (int cell = 0; cell < 15; cell++) {
            text.append("rock ").append(cell).append(" deep 0;");
        }
        x = Texts.chart(text + "cousin al at 0 wide 5 high 3 tan 1;");
        told(x.fades(0, 15));
        fraction(1, 1L << 60);
        told(x.fades(0, 14));
        fraction(226 / 2, 1L << 59);
        told(x.fades(0, 1));
        long none = 1;
        for (int i = 0; i < 15; i++) {
            none *= 15;
        }
        fraction((1L << 60) - none, 1L << 60);
    }

    private void years() {
        at(49);
        x = Texts.chart(SHORE, "sun ann 2; sun cyd 1; sail ann 0 12 6; stop; any;");
        told(x.live(0), 4);
        told(x.cousin(0, 3), 5);
        told(x.many(5), 1);
        told(x.live(9999), 4);
        // By then a spot shows in 7, and the ship goes about it.
        told(x.cousin(0, 3), 7);
        told(x.many(5), 1);
        told(x.many(6), 1);
        refused(x.live(-1), 5);
        refused(x.live(10000), 5);
        shore();
        refused(x.live(-1), 5);
        refused(x.live(0), 8);

        at(50);
        refused(x.lived(0), 8);
        refused(x.lived(5), 5);
        x = Texts.chart(SHORE, "sun ann 2; sun cyd 1; sail ann 0 12 6; sail ann 0 0 1;"
                + "sail ben 2 2 1; sun ben 9; sun ben 1;");
        told(x.live(7), 7);
        int[] lived = {2, 1, 2, 2, 0};
        for (int what = 0; what < 5; what++) {
            told(x.lived(what), lived[what]);
        }
        refused(x.lived(-1), 5);
        refused(x.lived(5), 5);
        told(x.mean(0, 3));
        refused(x.live(10000), 5);
        told(x.coast(0), 0);
        for (int what = 0; what < 5; what++) {
            told(x.lived(what), lived[what]);
        }

        at(51);
        x = Texts.chart(SHORE, "sun ann 2; rain 1;");
        told(x.mean(0, 1));
        fraction(9, 1);
        told(x.cousin(0, 3), 3);
        refused(x.lived(0), 8);
        told(x.mean(9980, 20));
        told(x.mean(9999, 1));
        refused(x.mean(9999, 2), 5);
        refused(x.mean(9981, 20), 5);
        refused(x.mean(0, 0), 5);
        refused(x.mean(0, 21), 5);
        refused(x.mean(-1, 2), 5);
        refused(x.mean(MAX, 2), 5);
        refused(x.mean(0, MIN), 5);
        shore();
        refused(x.mean(0, 0), 5);
        refused(x.mean(0, 1), 8);
    }

    private void marks() {
        at(52);
        x = Texts.chart(SHORE, "rain 1;");
        told(x.mark(), 1);
        told(x.sun(0, 1), 4);
        told(x.mark(), 2);
        told(x.sun(0, 1), 5);
        told(x.mark(), 3);
        refused(x.mark(), 7);

        at(53);
        told(x.sun(0, 1), 6);
        told(x.wreck(0, 0), 3);
        told(x.born(0, 1, 1), 3);
        told(x.back(), 2);
        told(x.cousin(0, 3), 5);
        told(x.many(2), 3);
        told(x.many(3), 3);
        told(x.many(8), cells(6, 7, 13));
        told(x.sail(ANN, 0, 12, 10), 0);
        told(x.coast(0), 0);
        refused(x.live(0), 8);
        told(x.back(), 1);
        told(x.cousin(0, 3), 4);
        told(x.many(5), 0);
        told(x.live(0), 1);
        told(x.cousin(0, 3), 3);
        told(x.mark(), 2);
        told(x.back(), 1);
        told(x.rule(3));
        same(Texts.years(x, "stop; stop;"), 2);
        told(x.back(), 0);
        told(x.many(4), 8);
        told(x.live(0), 1);
        refused(x.back(), 8);
        // A born cousin has no name, and the names of the text are back as well.
        same(Texts.years(x, "veil cyd;"), 1);
        told(x.lived(0), 0);
        what(x);
    }

    /** Trays, the tape, the fraction, what fault() and lived() tell are not taken back. */
    private void what(FreckleChart chart) {
        x = chart;
        told(x.mark(), 1);
        told(x.tray(0, 0, 1));
        told(x.write(0, 0, 5));
        told(x.freckled(0));
        long top = x.top();
        same(Texts.years(x, "rain 0;"), -1);
        same(Texts.feed(x, "rain 1;"), 20);
        told(x.back(), 0);
        told(x.read(0, 0), 5);
        same(x.top(), top);
        same(x.fault(0), 4);
        told(x.years(7), 1);
    }
}
