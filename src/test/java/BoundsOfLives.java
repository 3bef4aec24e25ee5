/** Promises 49 to 51: YEARS that are LIVED. */
final class BoundsOfLives extends Bounds {
    private static final String ANN_9 = "coast 2 by 1; cousin ann at 0 wide 2 high 1 tan 9;"
            + " cousin ben at 0 wide 1 high 1 tan 9 veiled; cousin cyd at 1 wide 1 high 1;";

    /** Lives years on a coast: how many steps, and what lived() tells then. */
    private void lives(String coast, String years, int steps, int... lived) {
        chart(coast, years);
        livesOn(0, steps, lived);
    }

    private void livesOn(int seed, int steps, int... lived) {
        told(x.live(seed), steps);
        for (int what = 0; what < lived.length; what++) {
            told(x.lived(what), lived[what]);
        }
    }

    @Sentence(promise = 49, words = "LIVED by a seed (0 to 9,999): all is as it becomes by it, and stays so.")
    void seedsOfZeroToTheGreatest() {
        x = pair();
        told(x.live(0), 2);
        told(x.cousin(0, 3), 3);
        told(x.live(9999), 2);
        told(x.cousin(0, 3), 5);
        refused(5, c -> c.live(-1));
        refused(5, c -> c.live(10000));
        refused(5, c -> c.live(MIN));
        refused(5, c -> c.live(MAX));
    }

    @Sentence(promise = 49, words = "LIVED: how many STEPS were come to, MISSED ones, too (5; 8: no YEARS).")
    void noYears() {
        refused(8, Bounds::fresh, c -> c.live(0));
        refused(8, Bounds::fresh, c -> c.live(9999));
        refused(5, Bounds::fresh, c -> c.live(-1));
        refused(5, Bounds::fresh, c -> c.live(10000));
        refused(8, BoundsOfLives::withoutYears, c -> c.live(0));
        lives(ANN_9, "sun ann 1; rain 9; any;", 3, 1);
        chart(ANN_9);
        same("years with a fault", Texts.years(x, "sun ann 0;"), NONE);
        same("live", x.live(0), NONE);
        same("STATUS", x.status(), 8);
    }

    private static FreckleChart withoutYears() {
        FreckleChart c = shore();
        c.coast(0);
        return c;
    }

    @Sentence(promise = 49, words = "a sun of who is VEILED or has TAN 9 (by any, too)")
    void sunsThatAreMissed() {
        lives(ANN_9, "sun ann 1; sun ann 9; sun ben 1;", 3, 3, 0, 0, 0, 0);
        told(x.cousin(0, 3), 9);
        told(x.cousin(1, 3), 9);
        lives(ANN_9, "sun cyd 8; sun cyd 9; sun cyd 1;", 3, 1, 0, 0, 2, 0);
        told(x.cousin(2, 3), 9);
        lives("odds 16; cousin ann at 0 wide 1 high 1 tan 8;", "any; any; any;", 3, 2, 0, 0, 1, 0);
        told(x.cousin(0, 3), 9);
        told(x.many(7), 0);
        lives("odds 16; cousin ann at 0 wide 1 high 1 veiled;", "any; any;", 2, 2, 0, 0, 0, 0);
        told(x.cousin(0, 3), 0);
        told(x.many(7), 1);
    }

    @Sentence(promise = 49, words = "a rain by which nobody grows paler")
    void rainsThatAreMissed() {
        lives("cousin ann at 0 wide 1 high 1 tan 1; cousin ben at 0 wide 1 high 1 tan 5 veiled;",
                "rain 1; rain 1; rain 9;", 3, 2, 0, 0, 0, 0);
        told(x.cousin(0, 3), 0);
        told(x.cousin(1, 3), 5);
        lives("", "rain 1;", 1, 1);
        lives("cousin ann at 0 wide 1 high 1 tan 9;", "rain 9; rain 9;", 2, 1);
        lives("cousin ann at 0 wide 1 high 1 tan 9;", "rain 8; rain 9; rain 1;", 3, 1);
    }

    @Sentence(promise = 49, words = "a veil, bare of who is it")
    void veilsThatAreMissed() {
        lives(ANN_9, "veil ann; veil ann; bare ben; bare ben; veil ann; bare ben;", 6, 4);
        told(x.many(7), 1);
        lives(ANN_9, "veil ben; bare ann;", 2, 2);
        told(x.many(7), 2);
    }

    @Sentence(promise = 49, words = "an ink of a CELL that is not of the PATCH, or INKED, or a seventh")
    void inksThatAreMissed() {
        lives("cousin ann at 0 wide 5 high 2; cousin ben at 1 wide 1 high 1 veiled;",
                "ink ann 0; ink ann 0; ink ann 10; ink ben 0; ink ben 1; ink ben 1;", 6, 4);
        told(x.cousin(0, 5), set(0));
        told(x.cousin(1, 5), set(1));
        lives("cousin ann at 0 wide 5 high 2 inked 0 1 2 3 4;",
                "ink ann 9; ink ann 8; wash ann; ink ann 8;", 4, 1);
        told(x.cousin(0, 5), set(8));
    }

    @Sentence(promise = 49, words = "wash: no CELL of that COUSIN is INKED then;")
    void washesOnlyOfOne() {
        lives("cousin ann at 0 wide 5 high 2 inked 0 1 2 3 4 9; cousin ben at 0 wide 1 high 1"
                + " inked 0;", "wash ann;", 1, 0);
        told(x.cousin(0, 5), 0);
        told(x.cousin(1, 5), 1);
    }

    @Sentence(promise = 49, words = "a wash of who has none")
    void washesThatAreMissed() {
        lives("cousin ann at 0 wide 5 high 2 inked 0; cousin ben at 0 wide 1 high 1;",
                "wash ann; wash ann; wash ben;", 3, 2);
    }

    @Sentence(promise = 49, words = "a sail without a WAY")
    void sailsThatAreMissed() {
        String coast = "coast 4 by 1; rock 2 deep 3; cousin ann at 0 wide 3 high 1 inked 0;"
                + " cousin ben at 0 wide 4 high 1 veiled; cousin cyd at 0 wide 4 high 1;";
        lives(coast, "sail ann 1 2 3; sail ann 1 2 4; sail ann 2 2 10; sail ann 1 1 10;", 4,
                0, 2, 2, 0, 0);
        told(x.many(5), 2);
        told(x.many(6), 2);
        lives(coast, "sail ann 0 1 1; sail ann 1 0 1; sail ann 0 0 1; sail ann 2 3 1; sail ben 1 1 1;",
                5, 5, 0, 0, 0, 0);
        told(x.many(5), 0);
        told(x.many(6), 0);
        String large = "coast 6 by 5; rock 0 deep 4; rock 29 deep 4; cousin ann at 0 wide 6 high 5;";
        lives(large, "sail ann 0 1 5; sail ann 1 0 5; sail ann 28 29 5; sail ann 29 29 4;"
                + " sail ann 0 29 4; sail ann 1 28 10;", 6, 0, 3, 3, 0, 0);
        told(x.many(5), 3);
        told(x.many(6), 3);
        // By that cousin alone: what others have charted, what shows on them, is nothing to it.
        lives(coast, "sail cyd 0 3 3; sail cyd 0 3 4; sail cyd 3 3 1;", 3, 0, 1, 2, 0, 0);
    }

    @Sentence(promise = 49, words = "any without COUSINS (no draws; else both).")
    void anyWithoutCousins() {
        lives("", "any;", 1, 1, 0, 0, 0, 0);
        lives("odds 0;", "any; any;", 2, 2, 0, 0, 0, 0);
        lives("odds 16;", "any; any;", 2, 2, 0, 0, 0, 0);
        chart("odds 16;", "any;");
        told(x.born(0, 1, 1), 0);
        livesOn(0, 1, 0, 0, 0, 1, 0);
    }

    /** What any does, by the document's words, and nothing else. */
    private void anyIsByDraws(int cousins, int odds, int seed, int anys) {
        chart("coast 1 by 1;", anys > 1 ? "loop " + anys + "; any; end;" : "any;");
        for (int i = 0; i < cousins; i++) {
            told(x.born(0, 1, 1), i);
        }
        told(x.rule(odds));
        int[] tans = new int[cousins];
        int veiled = 0;
        int darker = 0;
        int missed = 0;
        long s = seed;
        for (int i = 0; i < anys; i++) {
            s = (s * 2971 + 10883) % 65536;
            int cousin = (int) (s / 8 % cousins);
            s = (s * 2971 + 10883) % 65536;
            if (s / 8 % 16 >= odds) {
                veiled ^= 1 << cousin;
            } else if ((veiled >> cousin & 1) != 0 || tans[cousin] == 9) {
                missed++;
            } else {
                tans[cousin]++;
                darker++;
            }
        }
        livesOn(seed, anys > 1 ? anys + 1 : 1, missed, 0, 0, darker, 0);
        told(x.many(7), veiled);
        for (int i = 0; i < cousins; i++) {
            told(x.cousin(i, 3), tans[i]);
        }
    }

    @Sentence(promise = 49, words = "any: a COUSIN by a draw by how many there are has SUN of 1, if a draw by"
            + " 16 is below ODDS, else is VEILED, if bare, and bare, if VEILED.")
    void anyFromOddsZeroToSixteen() {
        for (int cousins = 1; cousins <= 6; cousins++) {
            for (int odds = 0; odds <= 16; odds++) {
                anyIsByDraws(cousins, odds, 7 * odds + cousins, 1);
                anyIsByDraws(cousins, odds, 100 * odds, 20);
                anyIsByDraws(cousins, odds, 9999, 99);
            }
        }
    }

    @Sentence(promise = 49, words = "Draws: s, at first the seed, becomes what is left of s times 2,971 and"
            + " 10,883 by 65,536; the draw by n is the rest of s by 8, rounded down, by n.")
    void drawsOfTheLeastAndTheGreatestSeed() {
        // By 0 s is 10,883, 35,028: 1,360 by 6 is 4, 4,378 by 16 is 10.
        // By 9,999 s is 30,104, then 58,763: 3,763 by 6 is 1, 7,345 by 16 is 1.
        chart("coast 1 by 1; odds 10;", "any;");
        for (int i = 0; i < 6; i++) {
            told(x.born(0, 1, 1), i);
        }
        told(x.mark(), 1);
        livesOn(0, 1, 0, 0, 0, 0, 0);
        told(x.many(7), 1 << 4);
        told(x.back(), 0);
        told(x.mark(), 1);
        told(x.rule(11));
        livesOn(0, 1, 0, 0, 0, 1, 0);
        told(x.cousin(4, 3), 1);
        told(x.back(), 0);
        told(x.mark(), 1);
        told(x.rule(1));
        livesOn(9999, 1, 0, 0, 0, 0, 0);
        told(x.many(7), 1 << 1);
        told(x.back(), 0);
        told(x.rule(2));
        livesOn(9999, 1, 0, 0, 0, 1, 0);
        told(x.cousin(1, 3), 1);
        for (int seed = 0; seed < 10000; seed += 101) {
            anyIsByDraws(6, 8, seed, 3);
        }
        // Each live begins with its seed, and not where the one ahead ended.
        chart("coast 1 by 1; odds 0;", "any;");
        for (int i = 0; i < 6; i++) {
            told(x.born(0, 1, 1), i);
        }
        told(x.live(0), 1);
        told(x.live(0), 1);
        told(x.many(7), 0);
    }

    private void holds(boolean due, String test) {
        lives("rock 0 deep 4; rock 1 deep 5; cousin ann at 0 wide 5 high 1 tan 5 inked 4;"
                + " cousin ben at 0 wide 5 high 1 tan 9 veiled; cousin cyd at 0 wide 1 high 1;",
                "when " + test + "; veil ann; end; bare ben;", due ? 3 : 2, 0);
        told(x.many(7), due ? 1 : 0);
    }

    @Sentence(promise = 49, words = "shows: a CELL; tan: 0 to 9;")
    void testsOnEachSide() {
        holds(true, "shows ann 0");
        holds(false, "shows ann 1");
        holds(true, "shows ann 4");
        holds(false, "shows ann 19");
        holds(false, "shows ben 0");
        holds(false, "tan ann < 5");
        holds(true, "tan ann < 6");
        holds(false, "tan ann > 5");
        holds(true, "tan ann > 4");
        holds(true, "tan ann = 5");
        holds(false, "tan ann = 4");
        holds(false, "tan ann = 6");
        holds(false, "tan cyd < 0");
        holds(false, "tan cyd > 0");
        holds(true, "tan cyd = 0");
        holds(true, "tan ben = 9");
        holds(false, "tan ben > 9");
        holds(false, "tan ben < 9");
        holds(true, "veiled ben");
        holds(false, "veiled ann");
    }

    @Sentence(promise = 49, words = "loop n (1 to 99): as often.")
    void loopsOnceToNinetyNineTimes() {
        lives(ANN_9, "loop 1; rain 1; end; veil cyd;", 3, 0);
        told(x.cousin(0, 3), 8);
        lives(ANN_9, "loop 2; rain 1; end; veil cyd;", 4, 0);
        told(x.cousin(0, 3), 7);
        lives(ANN_9, "loop 99; rain 1; end;", 100, 90);
        lives(ANN_9, "loop 99; end; veil cyd;", 2, 0);
        lives(ANN_9, "loop 2; loop 3; rain 1; end; end;", 9, 0);
        told(x.cousin(0, 3), 3);
        lives(ANN_9, "loop 2; loop 2; loop 2; rain 1; end; end; end;", 15, 0);
        told(x.cousin(0, 3), 1);
        lives(ANN_9, "loop 2; when tan ann = 9; rain 1; end; end;", 4, 0);
        told(x.cousin(0, 3), 8);
    }

    @Sentence(promise = 49, words = "At most 300 STEPS (when, loop count as one each time they are come to"
            + " from ahead; end does not).")
    void threeHundredSteps() {
        String ninetyNine = "loop 99; rain 1; end;";
        // 100 steps each; by nine rains ann is pale, and all the others are missed.
        lives(ANN_9, ninetyNine + ninetyNine + "loop 98; rain 1; end;", 299, 287, 0, 0, 0, 0);
        lives(ANN_9, ninetyNine + ninetyNine + ninetyNine, 300, 288, 0, 0, 0, 0);
        lives(ANN_9, ninetyNine + ninetyNine + ninetyNine + "veil cyd;", 300, 288, 0, 0, 0, 1);
        told(x.many(7), 2);
        lives(ANN_9, ninetyNine + ninetyNine + "loop 98; rain 1; end; veil cyd;", 300, 287, 0, 0, 0, 0);
        told(x.many(7), 6);
        // Whens and loops count, ends do not.
        lives(ANN_9, "loop 99; when veiled ann; end; end; loop 99; when veiled ann; end; end;"
                + "loop 99; when veiled ann; end; end;", 300, 0, 0, 0, 0, 0);
        lives(ANN_9, "loop 99; loop 1; end; end; loop 99; loop 9; end; end; loop 99; loop 99; end;"
                + " end;", 300, 0, 0, 0, 0, 0);
        lives(ANN_9, "loop 99; loop 1; end; end; loop 99; loop 9; end; end; loop 99; loop 99; end;"
                + " end; loop 1; end;", 300, 0, 0, 0, 0, 1);
        lives(ANN_9, "loop 99; loop 99; loop 99; end; end; end;", 300, 0, 0, 0, 0, 1);
        String two = "loop 99; when veiled ben; loop 9; end; end; end;";
        lives(ANN_9, two, 199, 0, 0, 0, 0, 0);
        lives(ANN_9, two + two, 300, 0, 0, 0, 0, 1);
    }

    @Sentence(promise = 50, words = "4: 1 if a STEP was left to be done (by the 300 alone, not by stop), else"
            + " 0")
    void aStepThatWasLeft() {
        String ninetyNine = "loop 99; rain 1; end;";
        String two = ninetyNine + ninetyNine;
        lives(ANN_9, "stop; rain 1;", 1, 0, 0, 0, 0, 0);
        lives(ANN_9, "loop 99; stop; end; rain 1;", 2, 0, 0, 0, 0, 0);
        // The 300th is a stop: nothing is left; a stop would be the 301st: it is left.
        lives(ANN_9, two + "loop 98; rain 1; end; stop; rain 1;", 300, 287, 0, 0, 0, 0);
        lives(ANN_9, two + ninetyNine + "stop;", 300, 288, 0, 0, 0, 1);
        // Behind the 300th there are ends alone, or a round more.
        lives(ANN_9, two + "loop 1; loop 97; rain 1; end; end;", 299, 286, 0, 0, 0, 0);
        lives(ANN_9, two + "loop 1; loop 98; rain 1; end; end;", 300, 287, 0, 0, 0, 0);
        lives(ANN_9, two + "loop 2; loop 98; rain 1; end; end;", 300, 287, 0, 0, 0, 1);
        lives(ANN_9, two + "loop 99; end; loop 97; rain 1; end; loop 99; end;", 300, 286, 0, 0, 0, 0);
        // A when that is the 300th, and holds, or does not.
        lives(ANN_9, two + "loop 98; rain 1; end; when veiled ben; rain 1; end;", 300, 287, 0, 0, 0, 1);
        lives(ANN_9, two + "loop 98; rain 1; end; when veiled ann; rain 1; end;", 300, 287, 0, 0, 0, 0);
        lives(ANN_9, two + "loop 98; rain 1; end; when veiled ann; rain 1; end; any;", 300, 287, 0, 0,
                0, 1);
    }

    @Sentence(promise = 50, words = "Of live() latest with STATUS 0")
    void nothingIsLeftInTheNextLive() {
        chart(ANN_9, "loop 99; loop 99; loop 99; end; end; end;");
        livesOn(0, 300, 0, 0, 0, 0, 1);
        livesOn(0, 300, 0, 0, 0, 0, 1);
        told(Texts.years(x, "rain 1; veil ann;"), 2);
        livesOn(0, 2, 0, 0, 0, 0, 0);
        // A loop that a stop left has no rounds for what stands in its place.
        told(Texts.years(x, "loop 9; loop 9; stop; end; end;"), 3);
        livesOn(0, 3, 0, 0, 0, 0, 0);
        told(Texts.years(x, "when veiled ann; when veiled ben; bare ben; end; end; bare ann;"), 4);
        livesOn(0, 4, 0, 0, 0, 0, 0);
        told(x.many(7), 0);
        livesOn(0, 2, 1, 0, 0, 0, 0);
    }

    @Sentence(promise = 50, words = "3: how often a COUSIN grew darker by sun, any")
    void howOftenSomebodyGrewDarker() {
        lives(ANN_9, "sun cyd 1; sun cyd 9; sun cyd 1; sun ann 1; rain 1; sun ann 9;", 6,
                2, 0, 0, 3, 0);
        lives("odds 16; cousin ann at 0 wide 1 high 1;", "loop 10; any; end;", 11, 1, 0, 0, 9, 0);
        lives("odds 0; cousin ann at 0 wide 1 high 1;", "loop 10; any; end;", 11, 0, 0, 0, 0, 0);
    }

    private static FreckleChart neverLived() {
        FreckleChart c = Texts.chart(SHORE, "rain 1;");
        c.mean(0, 2);
        c.live(10000);
        return c;
    }

    @Sentence(promise = 50, words = "(5; 8: there was none)")
    void livedWithoutALive() {
        for (int what = 0; what < 5; what++) {
            int number = what;
            refused(8, Bounds::fresh, c -> c.lived(number));
            refused(8, BoundsOfLives::neverLived, c -> c.lived(number));
        }
        refused(5, Bounds::fresh, c -> c.lived(-1));
        refused(5, Bounds::fresh, c -> c.lived(5));
        refused(5, c -> c.lived(-1));
        refused(5, c -> c.lived(5));
        refused(5, c -> c.lived(MIN));
        refused(5, c -> c.lived(MAX));
        changesNothing(c -> c.lived(4));
    }

    private void livedIs(int... due) {
        for (int what = 0; what < due.length; what++) {
            told(x.lived(what), due[what]);
        }
    }

    @Sentence(promise = 50, words = "Of live() latest with STATUS 0, whatever came since")
    void whateverCameSince() {
        chart(SHORE, "sail ann 7 7 6; sail ann 7 7 5; sail ann 7 7 5; rain 1; sun ann 1; sun ann 1;"
                + " sun ann 1; loop 5; veil ann; end;");
        told(x.mark(), 1);
        told(x.live(0), 13);
        livedIs(4, 1, 2, 3, 0);
        same("live", x.live(-1), NONE);
        same("live", x.live(10000), NONE);
        told(x.mean(0, 20));
        livedIs(4, 1, 2, 3, 0);
        same("years with a fault", Texts.years(x, "any"), NONE);
        told(x.years(0), 0);
        told(x.back(), 0);
        livedIs(4, 1, 2, 3, 0);
        told(x.coast(0), 0);
        same("live", x.live(0), NONE);
        same("STATUS", x.status(), 8);
        livedIs(4, 1, 2, 3, 0);
        // The next one tells of itself alone.
        told(Texts.coast(x, SHORE), 3);
        told(Texts.years(x, "rain 1;"), 1);
        told(x.live(0), 1);
        livedIs(0, 0, 0, 0, 0);
    }

    @Sentence(promise = 51, words = "by so many seeds (1 to 20) from one on (all stays as it is) (5: the last"
            + " above 9,999, too; 8).")
    void oneSeedToTwenty() {
        x = shore();
        told(x.mean(0, 1));
        told(x.mean(0, 20));
        told(x.mean(9999, 1));
        told(x.mean(9980, 20));
        refused(5, c -> of(c.mean(0, 0)));
        refused(5, c -> of(c.mean(0, 21)));
        refused(5, c -> of(c.mean(0, -1)));
        refused(5, c -> of(c.mean(0, MIN)));
        refused(5, c -> of(c.mean(0, MAX)));
        refused(5, c -> of(c.mean(1, 0)));
        refused(5, c -> of(c.mean(9999, 0)));
        refused(5, c -> of(c.mean(10000, 0)));
        refused(5, c -> of(c.mean(5, -1)));
        refused(5, c -> of(c.mean(9999, -9999)));
        refused(5, c -> of(c.mean(5, 21)));
        refused(5, c -> of(c.mean(-1, 1)));
        refused(5, c -> of(c.mean(-1, 2)));
        refused(5, c -> of(c.mean(-1, 20)));
        refused(5, c -> of(c.mean(-19, 20)));
        refused(5, c -> of(c.mean(MIN, 1)));
        refused(5, c -> of(c.mean(MAX, 1)));
        refused(5, c -> of(c.mean(MAX, 20)));
        refused(5, c -> of(c.mean(10000, 1)));
        refused(5, c -> of(c.mean(9999, 2)));
        refused(5, c -> of(c.mean(9981, 20)));
        refused(8, Bounds::fresh, c -> of(c.mean(0, 1)));
        refused(8, BoundsOfLives::withoutYears, c -> of(c.mean(0, 1)));
        refused(5, Bounds::fresh, c -> of(c.mean(0, 0)));
        refused(5, Bounds::fresh, c -> of(c.mean(9999, 2)));
    }

    @Sentence(promise = 51, words = "(all stays as it is)")
    void allStaysAsItIs() {
        changesTheFraction(c -> of(c.mean(0, 1)));
        changesTheFraction(c -> of(c.mean(9980, 20)));
        x = shore();
        told(x.mean(3, 7));
        livedIs(0, 1, 0, 2, 0);
        told(x.many(5), 1);
        told(x.many(6), 1);
    }

    @Sentence(promise = 51, words = "The FRACTION is the mean of TAN of all COUSINS together behind the YEARS")
    void tanOfAllTogether() {
        chart(SHORE, "rain 1;");
        told(x.mean(5, 1));
        fraction(7, 1);
        told(x.mean(5, 20));
        fraction(7, 1);
        chart("", "any;");
        told(x.mean(0, 20));
        fraction(0, 1);
        // Each seed begins with the coast as it is; those who are veiled count, too.
        chart("odds 16; cousin ann at 0 wide 1 high 1 tan 2; cousin ben at 0 wide 1 high 1 tan 9"
                + " veiled; cousin cyd at 0 wide 1 high 1;", "sun ann 3; sun cyd 1; veil cyd;");
        told(x.mean(9990, 10));
        fraction(15, 1);
        // Of two seeds: by one a sun, by the other a veil.
        chart("coast 1 by 1; cousin ann at 0 wide 1 high 1;", "any;");
        int darker = 0;
        for (int seed = 0; seed < 20; seed++) {
            long s = (seed * 2971L + 10883) % 65536;
            s = (s * 2971 + 10883) % 65536;
            darker += s / 8 % 16 < 8 ? 1 : 0;
            told(x.mean(0, seed + 1));
            same("the mean", x.top() * (seed + 1), darker * x.bottom());
            told(x.mean(seed, 1));
            fraction(s / 8 % 16 < 8 ? 1 : 0, 1);
        }
        same("some seeds bring sun", darker > 0 && darker < 20 ? 1 : 0, 1);
    }
}
