import java.util.ArrayList;
import java.util.List;

/**
 * Calls that are refused: two charts are made alike, one has the refused call, and then both are
 * asked all that can be asked. Only STATUS may differ (and what the document excepts).
 */
final class RefusalsTest {
    private static final int MAX = Integer.MAX_VALUE;
    private static final int MIN = Integer.MIN_VALUE;
    private static final String SHORE = "coast 5 by 3; odds 8; rock 6 deep 2; rock 7 deep 5;"
            + " rock 13 deep 0; cousin ann at 0 wide 3 high 3 tan 3;"
            + " cousin ben at 2 wide 3 high 3 tan 6 inked 4; cousin cyd at 10 wide 5 high 1 veiled;";
    private static final String FULL = "rock 0 deep 9;rock 1 deep 1;rock 2 deep 1;rock 3 deep 1;"
            + "rock 4 deep 1;rock 5 deep 1;rock 6 deep 1;rock 7 deep 1;rock 8 deep 1;rock 9 deep 1;"
            + "rock 10 deep 1;rock 11 deep 1;rock 12 deep 1;rock 13 deep 1;rock 14 deep 1;"
            + "cousin ann at 0 wide 5 high 3 tan 9 inked 0 1 2 3 4 5;"
            + "cousin ben at 0 wide 1 high 1;cousin cyd at 0 wide 1 high 1 tan 9;"
            + "cousin dot at 0 wide 1 high 1 veiled;cousin eve at 0 wide 1 high 1;"
            + "cousin fay at 0 wide 1 high 1;";

    private interface Call {
        /** The answer; a boolean counts 1, or NONE. */
        long on(FreckleChart x);
    }

    private final Expect expect = new Expect();

    public static void main(String[] args) {
        RefusalsTest t = new RefusalsTest();
        t.trays();
        t.texts();
        t.questions();
        t.deeds();
        t.full();
        t.bare();
        t.faultyTexts();
        t.expect.end("RefusalsTest");
    }

    private static long of(boolean answer) {
        return answer ? 1 : -1;
    }

    private static FreckleChart shore() {
        FreckleChart x = Texts.chart(SHORE, "sail ann 0 12 6; sun ben 2; rain 1;");
        x.tray(0, 1, 3);
        x.write(0, 0, 2);
        x.write(0, 1, 99);
        x.tray(1, 2, 60);
        x.write(1, 59, -7);
        x.mark();
        x.live(3);
        x.sail(1, 0, 12, 10);
        x.freckled(0);
        x.mark();
        x.sun(0, 1);
        Texts.feed(x, "odds 1;rock 3 deep 3;");
        return x;
    }

    private static FreckleChart filled() {
        FreckleChart x = Texts.chart(FULL);
        x.mark();
        x.mark();
        x.mark();
        return x;
    }

    /** All that a chart answers; what changes it comes last. */
    private static List<Long> all(FreckleChart x, boolean withTape) {
        List<Long> list = new ArrayList<>();
        list.add(x.top());
        list.add(x.bottom());
        if (withTape) {
            list.add((long) x.fault(0));
            list.add((long) x.fault(1));
            list.add((long) x.feed(1, 2, 3, 4, 5));
        }
        for (int what = 0; what < 5; what++) {
            list.add((long) x.lived(what));
        }
        look(x, list);
        for (int tray = 0; tray < 4; tray++) {
            for (int place : new int[] {0, 1, 2, 3, 59}) {
                list.add(x.read(tray, place));
            }
        }
        list.add((long) x.live(1));
        look(x, list);
        for (int i = 0; i < 4; i++) {
            list.add((long) x.back());
            list.add((long) x.many(6));
            list.add((long) x.cousin(0, 3));
        }
        list.add((long) x.live(2));
        if (withTape) {
            list.add((long) x.coast(7));
            list.add((long) x.many(4));
        }
        return list;
    }

    private static void look(FreckleChart x, List<Long> list) {
        for (int what = 0; what < 9; what++) {
            list.add((long) x.many(what));
        }
        for (int i = 0; i < 15; i++) {
            list.add((long) x.rock(i, 0));
            list.add((long) x.rock(i, 1));
        }
        for (int i = 0; i < 6; i++) {
            for (int what = 0; what < 7; what++) {
                list.add((long) x.cousin(i, what));
            }
        }
    }

    private void refused(FreckleChart x, FreckleChart twin, int status, Call call, boolean tape) {
        long answer = call.on(x);
        String what = "call refused with " + status;
        if (answer != -1 || x.status() != status) {
            System.out.println("in " + new Throwable().getStackTrace()[2]);
        }
        expect.same(what, answer, -1);
        expect.same("STATUS", x.status(), status);
        List<Long> due = all(twin, tape);
        List<Long> got = all(x, tape);
        if (!got.equals(due)) {
            System.out.println("in " + new Throwable().getStackTrace()[2] + ": " + got + ", " + due);
        }
        expect.holds("nothing changed by a " + what, got.equals(due));
    }

    private void shore(int status, Call call) {
        refused(shore(), shore(), status, call, true);
    }

    private void filled(int status, Call call) {
        refused(filled(), filled(), status, call, true);
    }

    private void empty(int status, Call call) {
        refused(new FreckleChart(), new FreckleChart(), status, call, true);
    }

    private void trays() {
        shore(1, x -> of(x.tray(4, 0, 1)));
        shore(1, x -> of(x.tray(0, 4, 1)));
        shore(5, x -> of(x.tray(0, 0, 61)));
        shore(6, x -> of(x.tray(0, 0, -1)));
        shore(1, x -> of(x.write(-1, 0, 1)));
        shore(3, x -> of(x.write(2, 0, 1)));
        shore(4, x -> of(x.write(0, 3, 1)));
        shore(1, x -> x.read(-1, 0));
        shore(3, x -> x.read(2, 0));
        shore(4, x -> x.read(0, -1));
        shore(1, x -> of(x.pour(0, 0, 4, 0, 1)));
        shore(3, x -> of(x.pour(0, 0, 2, 0, 1)));
        shore(11, x -> of(x.pour(0, 0, 1, 0, 1)));
        shore(6, x -> of(x.pour(0, 0, 0, 1, -1)));
        shore(4, x -> of(x.pour(0, 0, 0, 1, 3)));
        shore(4, x -> of(x.pour(0, 1, 0, 0, 3)));
        shore(4, x -> of(x.pour(1, 59, 1, 0, MAX)));
        shore(1, x -> x.copyTan(4));
        shore(3, x -> x.copyTan(2));
        filled(3, x -> x.copyTan(0));
        refused(small(), small(), 4, x -> x.copyTan(0), true);
    }

    private static FreckleChart small() {
        FreckleChart x = shore();
        x.tray(0, 0, 2);
        return x;
    }

    private void texts() {
        shore(5, x -> x.coast(-1));
        shore(5, x -> x.coast(41));
        shore(5, x -> x.coast(MIN));
        shore(5, x -> x.years(-1));
        shore(5, x -> x.years(41));
        shore(5, x -> x.years(MAX));
        refused(fullTape(), fullTape(), 5, x -> x.years(301), true);
        FreckleChart x = fullTape();
        expect.same("no more than 900", x.feed(1, 2, 3, 4, 5), -1);
        expect.same("STATUS stays", x.status(), 0);
        expect.same("the tape as it was", x.coast(900), 0);
    }

    private static FreckleChart fullTape() {
        FreckleChart x = shore();
        x.coast(0);
        for (int i = 0; i < 45; i++) {
            x.feed(0x20202020, 0x20202020, 0x20202020, 0x20202020, 0x20202020);
        }
        return x;
    }

    private void questions() {
        shore(5, x -> x.many(9));
        shore(2, x -> x.rock(3, 0));
        shore(5, x -> x.rock(0, 2));
        shore(2, x -> x.deep(15));
        shore(8, x -> x.deep(0));
        shore(2, x -> x.cousin(3, 0));
        shore(5, x -> x.cousin(0, 7));
        shore(2, x -> x.shown(MIN));
        shore(5, x -> x.charted(8));
        shore(5, x -> x.open(-1));
        shore(2, x -> x.way(1, 0, 15));
        shore(5, x -> x.way(8, 0, 1));
        shore(8, x -> x.way(1, 0, 4));
        shore(8, x -> x.wayAt(1, 0, 1, 2));
        shore(8, x -> x.strikes(1, 0, 1, 1));
        shore(5, x -> x.strikes(1, 0, 1, 11));
        shore(2, x -> x.fewest(-1, 0, 1));
        shore(5, x -> x.fewest(0, 0, 0));
        shore(8, x -> x.fewest(0, 4, 1));
        shore(8, x -> x.fewestSet(0, 4, 1));
        shore(8, x -> x.deepest(1, 0, 4));
        shore(2, x -> x.wants(3));
        filled(9, x -> x.wants(0));
        shore(2, x -> x.forged(3));
        shore(2, x -> x.parted(0, 3));
        shore(5, x -> x.parted(0, 0));
        shore(1, x -> x.fits(4, 0, 1, 1));
        shore(3, x -> x.fits(3, 0, 1, 1));
        shore(4, x -> x.fits(0, 4, 1, 1));
        shore(5, x -> x.fits(0, 2, 6, 5));
        shore(8, x -> x.fitsAt(0, 1, 2, 2, 9));
        shore(5, x -> x.ask(0, 0));
        shore(8, x -> x.ask(5, 3));
        shore(5, x -> x.game(5));
        shore(5, x -> x.moveOf(0));
        shore(2, x -> of(x.infant(0, 3, 0)));
        shore(5, x -> of(x.infant(0, 0, 0)));
        shore(5, x -> of(x.infant(0, 1, 16)));
        shore(2, x -> of(x.fades(3, 0)));
        shore(5, x -> of(x.fades(0, -1)));
        shore(2, x -> of(x.freckled(-1)));
        shore(5, x -> x.lived(5));
        shore(5, x -> of(x.mean(9999, 2)));
    }

    private void deeds() {
        shore(2, x -> x.sun(3, 1));
        shore(5, x -> x.sun(0, 10));
        shore(9, x -> x.sun(2, 1));
        filled(9, x -> x.sun(2, 1));
        shore(5, x -> x.rain(0));
        shore(2, x -> of(x.veil(3, true)));
        shore(9, x -> of(x.veil(2, true)));
        shore(9, x -> of(x.veil(0, false)));
        shore(2, x -> x.ink(3, 0));
        shore(2, x -> x.ink(0, 15));
        shore(9, x -> x.ink(0, 3));
        shore(9, x -> x.ink(1, 4));
        shore(2, x -> x.wash(3));
        shore(9, x -> x.wash(0));
        shore(2, x -> x.wreck(15, 0));
        shore(5, x -> x.wreck(0, 10));
        shore(9, x -> x.wreck(6, 0));
        shore(2, x -> x.sail(1, 0, 15, 1));
        shore(5, x -> x.sail(8, 0, 0, 1));
        shore(5, x -> x.sail(1, 0, 0, 11));
        shore(8, x -> x.sail(1, 0, 4, 1));
        shore(2, x -> x.born(15, 1, 1));
        shore(5, x -> x.born(0, 6, 1));
        shore(5, x -> of(x.rule(17)));
        shore(5, x -> x.live(10000));
    }

    private void full() {
        filled(7, x -> x.ink(0, 10));
        filled(7, x -> x.wreck(14, 0));
        filled(7, x -> x.wreck(15, 0));
        filled(7, x -> x.born(0, 1, 1));
        filled(7, x -> x.mark());
        filled(8, x -> x.live(0));
        filled(8, x -> of(x.mean(0, 1)));
    }

    private void bare() {
        empty(8, x -> x.back());
        empty(8, x -> x.lived(0));
        empty(8, x -> x.live(0));
        empty(8, x -> x.moveOf(1));
        empty(5, x -> x.coast(1));
        refused(uncovered(), uncovered(), 8, x -> x.cover(), true);
        refused(uncovered(), uncovered(), 8, x -> x.coverSet(), true);
    }

    private static FreckleChart uncovered() {
        FreckleChart x = shore();
        x.wreck(3, 1);
        x.coast(0);
        x.wreck(3, 1);
        return x;
    }

    /** A text with a FAULT empties the tape and is what fault() tells; all else stays. */
    private void faultyTexts() {
        String[] faulty = {"A", "coast 2 by 2; odds 1; ;", "rock 0 deep 1; cousin x at 0 wide 9",
            "odds 17;", "coast 1 by 1; cousin a at 0 wide 1 high 1 inked 0 0;", "loop 1; any;"};
        for (String text : faulty) {
            refused(shore(), shore(), 10, x -> {
                x.coast(0);
                x.back();
                return Texts.coast(x, text);
            }, x -> {
                x.coast(0);
                x.back();
            });
            refused(shore(), shore(), 10, x -> {
                x.coast(0);
                x.back();
                return Texts.years(x, text);
            }, x -> {
                x.coast(0);
                x.back();
            });
        }
    }

    private interface Before {
        void on(FreckleChart x);
    }

    private void refused(FreckleChart x, FreckleChart twin, int status, Call call, Before before) {
        before.on(twin);
        refused(x, twin, status, call, false);
        x.back();
        expect.same("the tape is empty", x.feed(0, 0, 0, 0, 0), 20);
    }
}
