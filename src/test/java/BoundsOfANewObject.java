/** Promises 1 to 4: what a new chart is, STATUS, the FRACTION. */
final class BoundsOfANewObject extends Bounds {
    @Sentence(promise = 1, words = "TRAYS are MISSING")
    void allFourTraysAreMissing() {
        for (int tray = 0; tray < 4; tray++) {
            int number = tray;
            refused(3, Bounds::fresh, c -> c.read(number, 0));
            refused(3, Bounds::fresh, c -> of(c.write(number, 0, 1)));
            refused(3, Bounds::fresh, c -> c.copyTan(number));
        }
    }

    @Sentence(promise = 1, words = "a COAST 5 by 4 without ROCKS, COUSINS (ODDS 8)")
    void theCoastIsBare() {
        int[] many = {5, 4, 0, 0, 8, 0, 0, 0, 0};
        for (int what = 0; what < many.length; what++) {
            told(x.many(what), many[what]);
        }
        refused(2, Bounds::fresh, c -> c.deep(20));
        for (int cell = 0; cell < 20; cell++) {
            same(x.deep(cell), NONE);
            same("STATUS of deep", x.status(), 8);
        }
        refused(2, Bounds::fresh, c -> c.cousin(0, 0));
        refused(2, Bounds::fresh, c -> c.rock(0, 0));
        told(x.charted(0), 0);
        refused(5, Bounds::fresh, c -> c.charted(1));
        told(x.cover(), 0);
        told(x.game(4), 0);
    }

    @Sentence(promise = 1, words = "no YEARS, MARKS")
    void noYearsNoMarks() {
        refused(8, Bounds::fresh, c -> c.live(0));
        refused(8, Bounds::fresh, c -> of(c.mean(0, 1)));
        refused(8, Bounds::fresh, c -> c.lived(0));
        refused(8, Bounds::fresh, c -> c.back());
        told(x.mark(), 1);
        told(x.back(), 0);
    }

    @Sentence(promise = 1, words = "an empty tape")
    void theTapeIsEmpty() {
        refused(5, Bounds::fresh, c -> c.coast(1));
        refused(5, Bounds::fresh, c -> c.years(1));
        same("feed", x.feed(0, 0, 0, 0, 0), 20);
    }

    @Sentence(promise = 1, words = "STATUS 0, the FRACTION 0 by 1")
    void theFirstStatusAndFraction() {
        same("status()", x.status(), 0);
        fraction(0, 1);
        same("status()", x.status(), 0);
    }

    @Sentence(promise = 1, words = "A new object")
    void twoObjectsShareNothing() {
        FreckleChart other = shore();
        other.mark();
        fraction(0, 1);
        told(x.many(3), 0);
        same("a tray of another chart", x.read(0, 0), NONE);
        same("STATUS", x.status(), 3);
        same("a mark of another chart", x.back(), NONE);
        same("STATUS", x.status(), 8);
    }

    @Sentence(promise = 1, words = "public static final int NONE = -1;")
    void noneIsMinusOne() {
        same("NONE", FreckleChart.NONE, -1);
        same("deep(-1)", x.deep(-1), -1);
    }

    @Sentence(promise = 1, words = "An object is used for at most 512 calls after it has been made;")
    void fiveHundredAndTwelveCalls() {
        for (int i = 0; i < 170; i++) {
            same("mark", x.mark(), 1);
            same("a cousin more", x.born(0, 1, 1), 0);
            same("back", x.back(), 0);
        }
        same("call 511", x.many(3), 0);
        same("call 512", x.status(), 0);
        chart("coast 1 by 1; cousin a at 0 wide 1 high 1;", "loop 99; sail a 0 0 1; end; any;");
        for (int i = 0; i < 480; i++) {
            same("live", x.live(i), 101);
        }
        // Nobody sails by who is veiled, so it is by the draws how many came in.
        same("ships", x.many(5), 0);
        same("ships", x.many(6) % 99, 0);
        same("some ships came in", x.many(6) > 99 * 99 ? 1 : 0, 1);
    }

    @Sentence(promise = 2, words = "The STATUS of the latest call that has one.")
    void statusOfTheLatestCall() {
        same("status()", x.status(), 0);
        x.deep(20);
        same("status()", x.status(), 2);
        same("status() once more", x.status(), 2);
        x.deep(19);
        same("status()", x.status(), 8);
        x.many(0);
        same("status()", x.status(), 0);
        x.tray(0, 0, -1);
        same("status()", x.status(), 6);
        x.coast(1);
        same("status()", x.status(), 5);
    }

    @Sentence(promise = 2, words = "status(), fault(), feed(), top(), bottom() have none.")
    void fiveCallsHaveNoStatus() {
        x = full();
        x.deep(20);
        x.status();
        x.fault(0);
        x.fault(1);
        x.fault(2);
        same("a feed beyond 900", x.feed(1, 2, 3, 4, 5), NONE);
        x.top();
        x.bottom();
        same("status()", x.status(), 2);
        x.coast(900);
        same("status()", x.status(), 0);
        x.coast(1);
        same("a feed", x.feed(1, 2, 3, 4, 5), 20);
        x.fault(0);
        same("status()", x.status(), 5);
    }

    private void statusIsZeroBehind(Call... calls) {
        for (Call call : calls) {
            x = shore();
            x.deep(-1);
            same("status()", x.status(), 2);
            same("a call that is told answers NONE", call.on(x) == NONE ? 1 : 0, 0);
            same("status() of a call that is told", x.status(), 0);
        }
    }

    @Sentence(promise = 2, words = "0 else.")
    void zeroElse() {
        statusIsZeroBehind(c -> of(c.tray(2, 0, 1)), c -> of(c.write(0, 0, 1)), c -> c.read(0, 0),
                c -> of(c.pour(0, 0, 0, 1, 1)), c -> c.coast(0), c -> c.years(0), c -> c.many(0),
                c -> c.rock(0, 0), c -> c.deep(6), c -> c.cousin(0, 0), c -> c.shown(0),
                c -> c.copyTan(0), c -> c.sun(0, 1), c -> c.rain(1), c -> of(c.veil(0, true)),
                c -> c.ink(0, 0), c -> c.wash(1), c -> c.wreck(0, 0), c -> c.sail(ANN, 0, 0, 1),
                c -> c.born(0, 1, 1), c -> of(c.rule(0)), c -> c.charted(0), c -> c.open(0));
        statusIsZeroBehind(c -> c.way(ANN, 0, 1), c -> c.wayAt(ANN, 0, 1, 0),
                c -> c.strikes(ANN, 7, 7, 10), c -> c.fewest(0, 1, 1), c -> c.fewestSet(0, 1, 1),
                c -> c.deepest(ANN, 0, 1), c -> c.wants(0), c -> c.forged(0), c -> c.parted(0, 1),
                c -> c.cover(), c -> c.coverSet(), c -> c.fits(0, 0, 1, 1),
                c -> c.fitsAt(0, 0, 1, 1, 0), c -> c.ask(1, 1), c -> c.game(0), c -> c.moveOf(1),
                c -> of(c.infant(0, 1, 0)), c -> of(c.fades(0, 0)), c -> of(c.freckled(0)),
                c -> c.live(0), c -> c.lived(0), c -> of(c.mean(0, 1)), c -> c.mark(),
                c -> c.back());
    }

    @Sentence(promise = 3, words = "The top of the FRACTION told latest.")
    void topStaysWhenACallIsRefused() {
        chart(SHORE, "rain 1;");
        same("top()", x.top(), 0);
        told(x.freckled(0));
        same("top()", x.top(), 1);
        told(x.mean(0, 1));
        same("top()", x.top(), 7);
        same("freckled", of(x.freckled(3)), NONE);
        same("top()", x.top(), 7);
        same("infant", of(x.infant(0, 0, 0)), NONE);
        same("fades", of(x.fades(0, 16)), NONE);
        same("mean", of(x.mean(0, 0)), NONE);
        same("top()", x.top(), 7);
        told(x.game(1), 3);
        same("top()", x.top(), 7);
        told(x.freckled(1));
        same("top()", x.top(), 1);
    }

    @Sentence(promise = 4, words = "Its bottom, above 0.")
    void bottomIsAboveZero() {
        same("bottom()", x.bottom(), 1);
        chart(SHORE);
        told(x.freckled(0));
        same("bottom()", x.bottom(), 9);
        same("freckled", of(x.freckled(-1)), NONE);
        same("bottom()", x.bottom(), 9);
        told(x.freckled(2));
        same("bottom()", x.bottom(), 1);
        told(x.fades(1, 15));
        same("bottom()", x.bottom(), 1);
    }

    @Sentence(promise = 4, words = "FRACTIONS are told by top() and bottom() without a common"
            + " divisor, the bottom above 0; 0 is 0 by 1.")
    void noCommonDivisor() {
        chart(SHORE, "rain 1;");
        told(x.freckled(1));
        fraction(1, 3);
        told(x.freckled(2));
        fraction(0, 1);
        told(x.infant(0, 1, 0));
        fraction(1, 1);
        told(x.infant(0, 1, 2));
        fraction(3, 4);
        told(x.infant(0, 1, 15));
        fraction(0, 1);
        told(x.mean(0, 20));
        fraction(7, 1);
        chart("coast 3 by 2; rock 0 deep 0; rock 1 deep 0; cousin ann at 0 wide 3 high 2 tan 1"
                + " inked 5 2;");
        told(x.freckled(0));
        fraction(2, 3);
        told(x.fades(0, 2));
        fraction(1, 4);
        told(x.ink(0, 3), 3);
        told(x.ink(0, 4), 4);
        told(x.freckled(0));
        fraction(1, 1);
    }
}
