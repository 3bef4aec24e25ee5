/** Promises 41 to 43: patches that fit what was seen. */
final class BoundsOfWhatWasSeen extends Bounds {
    private void places(long... places) {
        told(x.tray(0, 3, places.length));
        for (int i = 0; i < places.length; i++) {
            told(x.write(0, i, places[i]));
        }
    }

    /** At which cells a patch with all the places in the tray can begin. */
    private void fits(int n, int wide, int high, int... cells) {
        told(x.fits(0, n, wide, high), cells.length);
        for (int k = 0; k < cells.length; k++) {
            told(x.fitsAt(0, n, wide, high, k), cells[k]);
        }
        same("behind the last", x.fitsAt(0, n, wide, high, cells.length), NONE);
        same("STATUS", x.status(), 8);
    }

    private static FreckleChart seen(int length, long... places) {
        FreckleChart c = shore();
        c.tray(2, 3, length);
        for (int i = 0; i < places.length; i++) {
            c.write(2, i, places[i]);
        }
        return c;
    }

    @Sentence(promise = 41, words = "the first n (0 to 20) numbers are places of it")
    void noneToTwentyNumbers() {
        chart("coast 6 by 5; rock 0 deep 1;");
        places(new long[60]);
        fits(20, 1, 1, 0);
        fits(1, 1, 1, 0);
        told(x.fits(0, 0, 1, 1), 29);
        told(x.fitsAt(0, 0, 1, 1, 0), 1);
        told(x.fitsAt(0, 0, 1, 1, 28), 29);
        same("behind the last", x.fitsAt(0, 0, 1, 1, 29), NONE);
        same("STATUS", x.status(), 8);
        refused(5, () -> seen(60), c -> c.fits(2, 21, 1, 1));
        refused(5, () -> seen(60), c -> c.fits(2, 60, 1, 1));
        refused(5, () -> seen(60), c -> c.fits(2, -1, 1, 1));
        refused(5, () -> seen(60), c -> c.fits(2, MIN, 1, 1));
        refused(5, () -> seen(60), c -> c.fitsAt(2, 21, 1, 1, 0));
        refused(5, () -> seen(60), c -> c.fitsAt(2, -1, 1, 1, 0));
        // Twenty of a tray of twenty; without rocks no numbers fit everywhere.
        x = new FreckleChart();
        places(0, 1, 2, 3, 4, 5, 6, 7, 8, 9, 10, 11, 12, 13, 14, 15, 16, 17, 18, 19);
        fits(20, 5, 4);
        fits(0, 5, 4, 0);
        places();
        fits(0, 5, 3, 0, 5);
    }

    @Sentence(promise = 41, words = "4 a place that the TRAY has not, or too few numbers.")
    void tooFewNumbers() {
        refused(4, () -> seen(1), c -> c.fits(2, 2, 1, 1));
        refused(4, () -> seen(0), c -> c.fits(2, 1, 1, 1));
        refused(4, () -> seen(19), c -> c.fits(2, 20, 1, 1));
        refused(4, () -> seen(1), c -> c.fitsAt(2, 2, 1, 1, 0));
        refused(4, () -> seen(0), c -> c.fitsAt(2, 1, 1, 1, 0));
        told(x.tray(2, 0, 1));
        told(x.fits(2, 1, 1, 1), 0);
        told(x.tray(2, 0, 0));
        told(x.fits(2, 0, 1, 1), 20);
    }

    @Sentence(promise = 41, words = "a PATCH so wide (1 to 6), so high (1 to 5) (1; 3; 4; 5).")
    void patchesOfOneToSixByOneToFive() {
        chart("coast 6 by 5;");
        places();
        for (int wide = 1; wide <= 6; wide++) {
            for (int high = 1; high <= 5; high++) {
                told(x.fits(0, 0, wide, high), (7 - wide) * (6 - high));
                told(x.fitsAt(0, 0, wide, high, 0), 0);
                told(x.fitsAt(0, 0, wide, high, (7 - wide) * (6 - high) - 1),
                        6 - wide + 6 * (5 - high));
            }
        }
        chart("coast 1 by 1;");
        places();
        fits(0, 1, 1, 0);
        fits(0, 2, 1);
        fits(0, 1, 2);
        fits(0, 6, 5);
        refused(5, () -> seen(0), c -> c.fits(2, 0, 0, 1));
        refused(5, () -> seen(0), c -> c.fits(2, 0, 7, 1));
        refused(5, () -> seen(0), c -> c.fits(2, 0, 1, 0));
        refused(5, () -> seen(0), c -> c.fits(2, 0, 1, 6));
        refused(5, () -> seen(0), c -> c.fits(2, 0, -1, 1));
        refused(5, () -> seen(0), c -> c.fits(2, 0, 1, -1));
        refused(5, () -> seen(0), c -> c.fits(2, 0, MIN, MAX));
        refused(5, () -> seen(0), c -> c.fitsAt(2, 0, 7, 1, 0));
        refused(5, () -> seen(0), c -> c.fitsAt(2, 0, 1, 6, 0));
        refused(5, () -> seen(0), c -> c.fitsAt(2, 0, 0, 1, 0));
        refused(5, () -> seen(0), c -> c.fitsAt(2, 0, 1, 0, 0));
    }

    @Sentence(promise = 41, words = "places of it (0 on, row by row; one told twice counts once)")
    void theFirstAndTheLastPlace() {
        chart("coast 3 by 3; rock 0 deep 0; rock 4 deep 9; rock 8 deep 5;");
        places(0, 3, 0, 3);
        fits(1, 2, 2);
        fits(2, 2, 2, 0, 4);
        fits(3, 2, 2, 0, 4);
        fits(4, 2, 2, 0, 4);
        places(1);
        fits(1, 2, 2, 3);
        places(2);
        fits(1, 2, 2, 1);
        places(0, 4, 8);
        fits(3, 3, 3, 0);
        fits(2, 3, 3);
        fits(0, 3, 3);
        fits(0, 1, 1, 1, 2, 3, 5, 6, 7);
        places(0, 5);
        fits(2, 2, 3);
        places(0, 3);
        fits(2, 2, 3, 0);
        chart("coast 1 by 5; rock 4 deep 0; rock 2 deep 0;");
        places(2, 0, 4);
        fits(1, 1, 4, 0);
        fits(2, 1, 3, 2);
        fits(3, 1, 5);
        fits(0, 1, 1, 0, 1, 3);
        fits(0, 1, 2, 0);
        chart("coast 5 by 1; rock 4 deep 0; rock 2 deep 0;");
        places(2, 0, 4);
        fits(1, 4, 1, 0);
        fits(2, 3, 1, 2);
        fits(3, 5, 1);
        fits(0, 1, 1, 0, 1, 3);
        fits(0, 2, 1, 0);
        chart("coast 6 by 5; rock 29 deep 9;");
        places(29);
        fits(1, 6, 5, 0);
        places(24);
        fits(1, 5, 5, 1);
    }

    @Sentence(promise = 41, words = "5 a number that can't be (a set with what there is none of, a number in"
            + " a TRAY, too).")
    void numbersInTheTrayThatCannotBe() {
        refused(5, () -> seen(1, 1), c -> c.fits(2, 1, 1, 1));
        refused(5, () -> seen(1, -1), c -> c.fits(2, 1, 1, 1));
        refused(5, () -> seen(2, 0, 6), c -> c.fits(2, 2, 3, 2));
        refused(5, () -> seen(2, 6, 0), c -> c.fits(2, 2, 2, 3));
        refused(5, () -> seen(1, 30), c -> c.fits(2, 1, 6, 5));
        refused(5, () -> seen(1, Long.MAX_VALUE), c -> c.fits(2, 1, 6, 5));
        refused(5, () -> seen(1, Long.MIN_VALUE), c -> c.fits(2, 1, 6, 5));
        refused(5, () -> seen(1, 1L << 32), c -> c.fits(2, 1, 6, 5));
        refused(5, () -> seen(1, 1), c -> c.fitsAt(2, 1, 1, 1, 0));
        refused(5, () -> seen(1, -1), c -> c.fitsAt(2, 1, 1, 1, -1));
        // A number behind the first n is not looked at.
        x = seen(3, 0, 99, -1);
        told(x.fits(2, 1, 1, 1), 3);
        same("two of them", x.fits(2, 2, 1, 1), NONE);
        same("STATUS", x.status(), 5);
    }

    @Sentence(promise = 41, words = "STATUS of a call is the first of these that holds")
    void theTrayBeforeItsNumbersBeforeTheSize() {
        for (int tray = 0; tray < 4; tray++) {
            told(x.tray(tray, tray, 1));
            told(x.fits(tray, 1, 1, 1), 0);
        }
        refused(1, c -> c.fits(-1, 0, 1, 1));
        refused(1, c -> c.fits(4, 0, 1, 1));
        refused(1, c -> c.fits(4, 99, 0, 0));
        refused(1, c -> c.fits(MIN, 0, 1, 1));
        refused(1, c -> c.fits(MAX, 0, 1, 1));
        refused(3, c -> c.fits(2, 0, 1, 1));
        refused(3, c -> c.fits(2, -1, 0, 0));
        refused(3, c -> c.fits(2, 99, 7, 6));
        refused(4, () -> seen(1, 99), c -> c.fits(2, 2, 0, 0));
        refused(4, () -> seen(0), c -> c.fits(2, 1, 7, 6));
        refused(1, c -> c.fitsAt(-1, 0, 1, 1, 0));
        refused(1, c -> c.fitsAt(4, 99, 0, 0, -1));
        refused(3, c -> c.fitsAt(2, 99, 0, 0, -1));
    }

    @Sentence(promise = 42, words = "FITS: the k-th CELL at which it can begin (0 on) (1; 3; 4; 5; 8: no"
            + " such).")
    void placesOfWhatFits() {
        x = seen(1, 0);
        told(x.fits(2, 1, 1, 1), 3);
        told(x.fitsAt(2, 1, 1, 1, 0), 6);
        told(x.fitsAt(2, 1, 1, 1, 1), 7);
        told(x.fitsAt(2, 1, 1, 1, 2), 13);
        refused(8, () -> seen(1, 0), c -> c.fitsAt(2, 1, 1, 1, 3));
        refused(8, () -> seen(1, 0), c -> c.fitsAt(2, 1, 1, 1, -1));
        refused(8, () -> seen(1, 0), c -> c.fitsAt(2, 1, 1, 1, MIN));
        refused(8, () -> seen(1, 0), c -> c.fitsAt(2, 1, 1, 1, MAX));
        refused(8, () -> seen(0), c -> c.fitsAt(2, 0, 6, 1, 0));
        refused(5, () -> seen(1, 1), c -> c.fitsAt(2, 1, 1, 1, 9));
        refused(5, () -> seen(0), c -> c.fitsAt(2, 0, 0, 1, 9));
        refused(4, () -> seen(0), c -> c.fitsAt(2, 1, 1, 1, 9));
        refused(3, c -> c.fitsAt(2, 0, 1, 1, 9));
        refused(1, c -> c.fitsAt(4, 0, 1, 1, 9));
        changesNothing(c -> c.fits(1, 0, 1, 1));
        changesNothing(c -> c.fitsAt(1, 0, 1, 1, 0));
    }

    @Sentence(promise = 43, words = "ASK for a PATCH so wide, so high, of all places at which it can begin"
            + " (whatever is in it): the place (5; 8: fewer than two).")
    void twoBeginningsAtLeast() {
        told(x.ask(5, 3), 0);
        told(x.ask(4, 4), 0);
        told(x.ask(1, 1), 0);
        refused(8, Bounds::fresh, c -> c.ask(5, 4));
        refused(8, Bounds::fresh, c -> c.ask(6, 1));
        refused(8, Bounds::fresh, c -> c.ask(1, 5));
        refused(8, c -> c.ask(5, 3));
        refused(5, c -> c.ask(0, 1));
        refused(5, c -> c.ask(7, 1));
        refused(5, c -> c.ask(1, 0));
        refused(5, c -> c.ask(1, 6));
        refused(5, c -> c.ask(-1, -1));
        refused(5, c -> c.ask(MIN, 1));
        refused(5, c -> c.ask(1, MAX));
        refused(5, c -> c.ask(7, 6));
        changesNothing(c -> c.ask(2, 2));
        chart("coast 1 by 1;");
        same("a coast of one cell", x.ask(1, 1), NONE);
        same("STATUS", x.status(), 8);
        chart("coast 6 by 5;");
        told(x.ask(6, 4), 0);
        told(x.ask(5, 5), 0);
        same("the whole coast", x.ask(6, 5), NONE);
        same("STATUS", x.status(), 8);
    }

    @Sentence(promise = 43, words = "ASK: the place by which these are parted the best: how many have a ROCK"
            + " there, how many have not, the greater number the least; of several the first.")
    void theGreaterNumberTheLeast() {
        // Of two beginnings 0 and 1 each place 0 to 3: a rock in 4 parts them by place 3.
        chart("coast 5 by 1; rock 4 deep 9;");
        told(x.ask(4, 1), 3);
        told(x.wreck(0, 0), 1);
        told(x.ask(4, 1), 0);
        // In both there is a rock in place 0: that parts nothing.
        told(x.wreck(1, 0), 2);
        told(x.ask(4, 1), 1);
        // Of four beginnings 3 have a rock in place 0, 2 in place 1.
        chart("coast 5 by 1; rock 0 deep 1; rock 1 deep 1; rock 2 deep 1;");
        told(x.ask(2, 1), 1);
        // Of four beginnings 3 have one in place 0, 3 in place 1: the first counts.
        chart("coast 5 by 1; rock 0 deep 1; rock 1 deep 1; rock 2 deep 1; rock 4 deep 1;");
        told(x.ask(2, 1), 0);
        // Patches, coasts that are higher than wide, and wider than high.
        chart("coast 1 by 5; rock 4 deep 0;");
        told(x.ask(1, 4), 3);
        told(x.ask(1, 2), 1);
        same("one beginning", x.ask(1, 5), NONE);
        same("STATUS", x.status(), 8);
        chart("coast 6 by 1; rock 5 deep 0;");
        told(x.ask(5, 1), 4);
        chart("coast 2 by 5; rock 9 deep 0;");
        told(x.ask(2, 4), 7);
        told(x.ask(1, 4), 3);
        // The last place of the greatest patch.
        chart("coast 6 by 5; rock 29 deep 0;");
        told(x.ask(5, 5), 24);
        told(x.ask(6, 4), 23);
    }
}
