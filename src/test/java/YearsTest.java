/** What the years do, step by step: done or missed, drawn, left at the 300. */
final class YearsTest {
    private static final String SHORE = "coast 5 by 3; odds 8; rock 6 deep 2; rock 7 deep 5;"
            + " rock 13 deep 0; cousin ann at 0 wide 3 high 3 tan 3;"
            + " cousin ben at 2 wide 3 high 3 tan 6 inked 4; cousin cyd at 10 wide 5 high 1 veiled;";

    private final Expect expect = new Expect();
    private FreckleChart x;

    public static void main(String[] args) {
        YearsTest t = new YearsTest();
        t.sunsAndRains();
        t.veils();
        t.inks();
        t.ships();
        t.draws();
        t.tests();
        t.loops();
        t.threeHundred();
        t.means();
        t.later();
        t.expect.end("YearsTest");
    }

    /** Lives the years of a new shore: steps, and lived(0) to lived(4). */
    private void lives(String years, int seed, int... due) {
        x = Texts.chart(SHORE, years);
        livesOn(years, seed, due);
    }

    private void livesOn(String years, int seed, int... due) {
        expect.same("live of " + years, x.live(seed), due[0]);
        expect.same("STATUS of " + years, x.status(), 0);
        for (int what = 0; what < 5; what++) {
            expect.same("lived(" + what + ") of " + years, x.lived(what), due[what + 1]);
        }
    }

    private void is(String what, long got, long due) {
        expect.same(what, got, due);
    }

    private void sunsAndRains() {
        lives("sun ann 4;", 0, 1, 0, 0, 0, 1, 0);
        is("tan of ann", x.cousin(0, 3), 7);
        lives("sun ann 9; sun ann 1;", 0, 2, 1, 0, 0, 1, 0);
        is("tan of ann", x.cousin(0, 3), 9);
        lives("sun cyd 1;", 0, 1, 1, 0, 0, 0, 0);
        is("tan of cyd", x.cousin(2, 3), 0);
        lives("rain 4;", 0, 1, 0, 0, 0, 0, 0);
        is("tan of ann", x.cousin(0, 3), 0);
        is("tan of ben", x.cousin(1, 3), 2);
        lives("rain 4; rain 2; rain 1;", 0, 3, 1, 0, 0, 0, 0);
        lives("veil ann; veil ben; rain 1;", 0, 3, 1, 0, 0, 0, 0);
        is("tan of ann", x.cousin(0, 3), 3);
    }

    private void veils() {
        lives("veil ann; veil ann; bare ann; bare ann; bare cyd;", 0, 5, 2, 0, 0, 0, 0);
        is("who is veiled", x.many(7), 0);
        lives("veil cyd; bare ann;", 0, 2, 2, 0, 0, 0, 0);
        is("who is veiled", x.many(7), 4);
    }

    private void inks() {
        lives("ink ann 0; ink ann 0; ink ann 3; ink cyd 14;", 0, 4, 2, 0, 0, 0, 0);
        is("inked of ann", x.cousin(0, 5), 1);
        is("inked of cyd", x.cousin(2, 5), 1 << 14);
        lives("ink ann 0; ink ann 1; ink ann 2; ink ann 5; ink ann 6; ink ann 7; ink ann 10;", 0,
                7, 1, 0, 0, 0, 0);
        is("inked of ann", x.cousin(0, 5), 231);
        lives("wash ben; wash ben; wash ann; ink ann 10;", 0, 4, 2, 0, 0, 0, 0);
        is("inked of ben", x.cousin(1, 5), 0);
        is("inked of ann", x.cousin(0, 5), 1 << 10);
    }

    private void ships() {
        lives("sail ann 0 12 5; sail ann 0 12 6; sail ann 0 12 10; sail ann 0 4 1;", 0,
                4, 1, 2, 1, 0, 0);
        is("how many struck", x.many(5), 2);
        is("how many came in", x.many(6), 1);
        livesOn("the same once more", 0, 4, 1, 2, 1, 0, 0);
        is("how many struck", x.many(5), 4);
        is("how many came in", x.many(6), 2);
        // By that cousin alone: ben's spots close nothing for ann. The same cell is a way.
        lives("sail ann 7 7 6; sail ben 7 7 1; sail cyd 10 10 1;", 0, 3, 2, 1, 0, 0, 0);
    }

    private void draws() {
        // s is 10,883, 35,028, 7,903, 28,808: 1,360 by 3 is 1, 4,378 by 16 is 10,
        // 987 by 3 is 0, 3,601 by 16 is 1.
        lives("any;", 0, 1, 0, 0, 0, 0, 0);
        is("who is veiled", x.many(7), 6);
        lives("any; any;", 0, 2, 0, 0, 0, 1, 0);
        is("who is veiled", x.many(7), 6);
        is("tan of ann", x.cousin(0, 3), 4);
        x = Texts.chart(SHORE, "any;");
        x.rule(10);
        livesOn("any with odds 10", 0, 1, 0, 0, 0, 0, 0);
        is("who is veiled", x.many(7), 6);
        x = Texts.chart(SHORE, "any;");
        x.rule(11);
        livesOn("any with odds 11", 0, 1, 0, 0, 0, 1, 0);
        is("tan of ben", x.cousin(1, 3), 7);
        // The sun of any is missed by who is veiled, or has 9; both draws are made then.
        // The third: 9,435, 58,396: 1,179 by 3 is 0, 7,299 by 16 is 3.
        lives("veil ann; any; any; any;", 0, 4, 2, 0, 0, 0, 0);
        lives("sun ann 9; any; any;", 0, 3, 1, 0, 0, 1, 0);
        x = Texts.chart("coast 1 by 1;", "any; any;");
        livesOn("any without cousins", 5, 2, 2, 0, 0, 0, 0);
        // By seed 3 s is 19,796: 2,474 by 3 is 2, cyd. By seed 2 it is 16,825: 2,103 by 3 is 0.
        x = Texts.chart(SHORE, "any;");
        x.rule(0);
        livesOn("any by seed 3", 3, 1, 0, 0, 0, 0, 0);
        is("who is veiled", x.many(7), 0);
        x.rule(0);
        livesOn("any by seed 2", 2, 1, 0, 0, 0, 0, 0);
        is("who is veiled", x.many(7), 1);
    }

    private void holds(boolean due, String test) {
        lives("when " + test + "; rain 1; end; veil ann;", 0, due ? 3 : 2, 0, 0, 0, 0, 0);
        is("tan of ben when " + test, x.cousin(1, 3), due ? 5 : 6);
        is("behind the end", x.many(7), 5);
    }

    private void tests() {
        holds(true, "shows ann 6");
        holds(false, "shows ann 7");
        holds(true, "shows ben 4");
        holds(false, "shows ben 0");
        holds(false, "shows cyd 13");
        holds(true, "tan ann < 4");
        holds(false, "tan ann < 3");
        holds(true, "tan ann > 2");
        holds(false, "tan ann > 3");
        holds(true, "tan ann = 3");
        holds(false, "tan ann = 4");
        holds(true, "tan cyd = 0");
        holds(true, "veiled cyd");
        holds(false, "veiled ann");
        lives("when veiled ann; when veiled cyd; stop; end; any; end; rain 1;", 0,
                2, 0, 0, 0, 0, 0);
        lives("when veiled cyd; when veiled ann; stop; end; rain 1; end; rain 1;", 0,
                4, 0, 0, 0, 0, 0);
    }

    private void loops() {
        lives("loop 3; sun ann 1; end;", 0, 4, 0, 0, 0, 3, 0);
        is("tan of ann", x.cousin(0, 3), 6);
        lives("loop 2; loop 3; sun ann 1; end; rain 1; end;", 0, 11, 0, 0, 0, 6, 0);
        lives("loop 99; end; rain 1;", 0, 2, 0, 0, 0, 0, 0);
        lives("loop 3; when tan ann = 5; stop; end; sun ann 1; end; rain 1;", 0,
                7, 0, 0, 0, 2, 0);
        lives("loop 1; stop; end; rain 1;", 0, 2, 0, 0, 0, 0, 0);
        lives("loop 2; loop 99; loop 99; end; end; end;", 0, 201, 0, 0, 0, 0, 0);
        lives("stop; rain 1;", 0, 1, 0, 0, 0, 0, 0);
        lives("", 0, 0, 0, 0, 0, 0, 0);
        lives("loop 2; when veiled cyd; bare cyd; end; end;", 0, 4, 0, 0, 0, 0, 0);
    }

    private void threeHundred() {
        // 1 and 99 and 199: 299 steps, and one more to 300.
        String sun = "loop 99; bare ann; end;";
        lives(sun + sun + sun, 0, 300, 297, 0, 0, 0, 0);
        lives(sun + sun + sun + "stop;", 0, 300, 297, 0, 0, 0, 1);
        lives(sun + sun + sun + "loop 1; end;", 0, 300, 297, 0, 0, 0, 1);
        lives("loop 3; loop 99; bare ann; end; end;", 0, 300, 296, 0, 0, 0, 1);
        lives("loop 1;" + sun + sun + "loop 98; bare ann; end; end;", 0, 300, 296, 0, 0, 0, 0);
        lives("loop 2;" + sun + sun + "loop 98; bare ann; end; end;", 0, 300, 296, 0, 0, 0, 1);
        lives("loop 99; loop 3; end; end;" + sun + sun + "rain 1;", 0, 300, 198, 0, 0, 0, 1);
        lives("loop 99; loop 3; end; end;" + sun + "loop 98; bare ann; end; rain 1;", 0,
                300, 197, 0, 0, 0, 0);
        lives("loop 99; loop 99; loop 99; end; end; end;", 0, 300, 0, 0, 0, 0, 1);
        // The last step is a loop without a body: nothing is left behind it.
        lives(sun + sun + "loop 98; bare ann; end; loop 99; end;", 0, 300, 296, 0, 0, 0, 0);
        // Nothing of it is left in the next years.
        lives(sun + sun + sun + "stop;", 0, 300, 297, 0, 0, 0, 1);
        Texts.years(x, "rain 1;");
        livesOn("rain behind 300 steps", 0, 1, 0, 0, 0, 0, 0);
        lives("loop 9; stop; end;", 0, 2, 0, 0, 0, 0, 0);
        Texts.years(x, "when veiled cyd; bare cyd; end; any;");
        livesOn("a when behind a loop that was left", 0, 3, 0, 0, 0, 0, 0);
    }

    private void means() {
        x = Texts.chart(SHORE, "sun ann 4; sail ann 0 0 1; any; veil ann;");
        expect.holds("mean(0, 1)", x.mean(0, 1));
        // By seed 0 any veils ben: 7, 6, 0.
        is("top", x.top(), 13);
        is("bottom", x.bottom(), 1);
        is("tan of ann", x.cousin(0, 3), 3);
        is("who is veiled", x.many(7), 4);
        is("how many came in", x.many(6), 0);
        is("no live() has been", x.lived(0), -1);
        // Each seed begins with the coast as it is.
        x = Texts.chart(SHORE, "rain 1;");
        expect.holds("mean(5, 20)", x.mean(5, 20));
        is("top", x.top(), 7);
        is("bottom", x.bottom(), 1);
        // With odds 16 each any is a sun.
        x = Texts.chart("coast 1 by 1; odds 16; cousin al at 0 wide 1 high 1;", "any; any;");
        expect.holds("mean(0, 3)", x.mean(0, 3));
        is("top", x.top(), 2);
        is("bottom", x.bottom(), 1);
        x = Texts.chart("coast 1 by 1; cousin al at 0 wide 1 high 1;", "any;");
        int sum = 0;
        for (int seed = 0; seed < 20; seed++) {
            x.mark();
            x.live(seed);
            sum += x.cousin(0, 3);
            x.back();
        }
        expect.holds("mean(0, 20)", x.mean(0, 20));
        is("the mean of 20 seeds", x.top() * 20, sum * x.bottom());
        expect.holds("not all seeds are alike", sum > 0 && sum < 20);
        is("no common divisor", x.bottom() % 2 == 0 && x.top() % 2 == 0 ? 1 : 0, 0);
        x = Texts.chart("coast 1 by 1;", "any;");
        expect.holds("mean(0, 7)", x.mean(0, 7));
        is("top", x.top(), 0);
        is("bottom", x.bottom(), 1);
    }

    /** Years go by the coast as it is when they are lived. */
    private void later() {
        x = Texts.chart(SHORE, "sail ann 0 12 10; any;");
        x.wreck(0, 0);
        livesOn("behind a wreck", 0, 2, 1, 0, 0, 0, 0);
        x = Texts.chart("coast 2 by 1;", "any;");
        x.born(0, 1, 1);
        x.rule(16);
        livesOn("behind a birth", 0, 1, 0, 0, 0, 1, 0);
        x = Texts.chart(SHORE, "when tan ann = 3; sun ann 1; end;");
        livesOn("once", 0, 2, 0, 0, 0, 1, 0);
        livesOn("again", 0, 1, 0, 0, 0, 0, 0);
    }
}
