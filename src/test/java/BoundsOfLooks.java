/** Promises 13 to 17: what there is, and what SHOWS. */
final class BoundsOfLooks extends Bounds {
    @Sentence(promise = 13, words = "WIDE (what 0), HIGH (1); ROCKS (2), COUSINS (3); ODDS (4);")
    void fromWhatZeroToEight() {
        chart(SHORE);
        int[] many = {5, 3, 3, 3, 8, 0, 0, CYD, set(6, 7, 13)};
        for (int what = 0; what < many.length; what++) {
            told(x.many(what), many[what]);
        }
        refused(5, c -> c.many(-1));
        refused(5, c -> c.many(9));
        refused(5, c -> c.many(MIN));
        refused(5, c -> c.many(MAX));
        changesNothing(c -> c.many(5));
    }

    @Sentence(promise = 13, words = "how many ships STRUCK (5), came IN (6);")
    void shipsAreCountedFromNone() {
        chart(SHORE, "sail ann 7 7 6; sail ann 7 7 5; sail ann 6 6 1;");
        told(x.many(5), 0);
        told(x.many(6), 0);
        told(x.sail(ANN, 7, 7, 6), 0);
        told(x.many(5), 1);
        told(x.many(6), 0);
        told(x.sail(ANN, 7, 7, 5), 1);
        told(x.many(5), 1);
        told(x.many(6), 1);
        same("without a way", x.sail(ANN, 6, 6, 1), NONE);
        told(x.live(0), 3);
        told(x.many(5), 2);
        told(x.many(6), 2);
        told(x.live(0), 3);
        told(x.many(5), 3);
        told(x.many(6), 3);
    }

    @Sentence(promise = 13, words = "sets: of COUSINS who are VEILED (1 for COUSIN 0 ..) (7), of CELLS with"
            + " ROCKS (1 for CELL 0 ..) (8)")
    void theLeastAndTheGreatestOfASet() {
        told(x.many(7), 0);
        told(x.many(8), 0);
        chart("coast 6 by 5;");
        for (int cousin = 0; cousin < 6; cousin++) {
            told(x.born(0, 1, 1), cousin);
        }
        told(x.veil(0, true));
        told(x.many(7), 1);
        told(x.veil(5, true));
        told(x.many(7), 33);
        told(x.wreck(29, 9), 0);
        told(x.many(8), 1 << 29);
        told(x.wreck(0, 0), 1);
        told(x.many(8), 1 << 29 | 1);
        for (int cousin = 1; cousin < 5; cousin++) {
            told(x.veil(cousin, true));
        }
        told(x.many(7), 63);
    }

    @Sentence(promise = 14, words = "Of a ROCK, what 0: its CELL, 1: DEPTH (2; 5).")
    void theFirstAndTheLastRock() {
        chart(SHORE);
        told(x.rock(0, 0), 6);
        told(x.rock(0, 1), 2);
        told(x.rock(2, 0), 13);
        told(x.rock(2, 1), 0);
        refused(2, c -> c.rock(-1, 0));
        refused(2, c -> c.rock(3, 0));
        refused(2, c -> c.rock(MIN, 0));
        refused(2, c -> c.rock(MAX, 1));
        refused(5, c -> c.rock(0, -1));
        refused(5, c -> c.rock(2, 2));
        refused(5, c -> c.rock(0, MAX));
        refused(2, c -> c.rock(3, 2));
        refused(2, c -> c.rock(-1, -1));
        x = full();
        told(x.rock(14, 0), 14);
        refused(2, Bounds::full, c -> c.rock(15, 0));
        refused(2, Bounds::fresh, c -> c.rock(0, 0));
        changesNothing(c -> c.rock(0, 0));
    }

    @Sentence(promise = 15, words = "DEPTH of the ROCK in a CELL (2; 8: there is none).")
    void theFirstAndTheLastCell() {
        chart("coast 6 by 5; rock 0 deep 0; rock 29 deep 9;");
        told(x.deep(0), 0);
        told(x.deep(29), 9);
        refused(8, c -> c.deep(0));
        refused(8, c -> c.deep(14));
        refused(2, c -> c.deep(15));
        refused(2, c -> c.deep(-1));
        refused(2, c -> c.deep(MIN));
        refused(2, c -> c.deep(MAX));
        refused(2, Bounds::fresh, c -> c.deep(20));
        refused(8, Bounds::fresh, c -> c.deep(19));
        changesNothing(c -> c.deep(6));
    }

    @Sentence(promise = 16, words = "Of a COUSIN, what 0: the first CELL of the PATCH, 1: how wide, 2: how"
            + " high it is, 3: TAN, 4: 1 if VEILED, else 0, 5: the set of INKED CELLS, 6: that of all"
            + " CELLS of the PATCH (2; 5).")
    void fromWhatZeroToSix() {
        chart(SHORE);
        int[][] all = {{0, 3, 3, 3, 0, 0, set(0, 1, 2, 5, 6, 7, 10, 11, 12)},
            {2, 3, 3, 6, 0, set(4), set(2, 3, 4, 7, 8, 9, 12, 13, 14)},
            {10, 5, 1, 0, 1, 0, set(10, 11, 12, 13, 14)}};
        for (int cousin = 0; cousin < all.length; cousin++) {
            for (int what = 0; what < 7; what++) {
                told(x.cousin(cousin, what), all[cousin][what]);
            }
        }
        refused(5, c -> c.cousin(0, -1));
        refused(5, c -> c.cousin(2, 7));
        refused(5, c -> c.cousin(0, MIN));
        refused(5, c -> c.cousin(0, MAX));
        refused(2, c -> c.cousin(-1, 0));
        refused(2, c -> c.cousin(3, 0));
        refused(2, c -> c.cousin(MAX, 0));
        refused(2, c -> c.cousin(MIN, 0));
        refused(2, c -> c.cousin(3, 7));
        refused(2, Bounds::fresh, c -> c.cousin(0, 0));
        refused(2, Bounds::full, c -> c.cousin(6, 0));
        x = full();
        told(x.cousin(5, 5), 1);
        chart("coast 6 by 5; cousin a at 29 wide 1 high 1 inked 29;");
        told(x.cousin(0, 5), 1 << 29);
        told(x.cousin(0, 6), 1 << 29);
        changesNothing(c -> c.cousin(1, 5));
    }

    @Sentence(promise = 17, words = "A SPOT SHOWS on a COUSIN who is bare in each CELL of the PATCH in which"
            + " there is a ROCK with a DEPTH below TAN, and in each INKED one; on a VEILED one nothing"
            + " SHOWS.")
    void aDepthBelowTan() {
        for (int depth = 0; depth <= 9; depth++) {
            chart("coast 1 by 1; rock 0 deep " + depth + "; cousin a at 0 wide 1 high 1;");
            told(x.shown(0), 0);
            for (int tan = 1; tan <= 9; tan++) {
                told(x.sun(0, 1), tan);
                told(x.shown(0), depth < tan ? 1 : 0);
            }
        }
        // A rock beside the patch does not show, ink without a rock does.
        chart("coast 3 by 1; rock 0 deep 0; rock 1 deep 9; cousin a at 1 wide 2 high 1 tan 9"
                + " inked 2;");
        told(x.shown(0), set(2));
        told(x.ink(0, 1), 2);
        told(x.shown(0), set(1, 2));
        told(x.veil(0, true));
        told(x.shown(0), 0);
        told(x.veil(0, false));
        told(x.shown(0), set(1, 2));
        told(x.wash(0), 2);
        told(x.shown(0), 0);
    }

    @Sentence(promise = 17, words = "The set of CELLS in which a SPOT SHOWS on a COUSIN (2).")
    void theFirstAndTheLastCousin() {
        x = shore();
        told(x.shown(0), set(6));
        told(x.shown(1), set(4, 7, 9, 13));
        told(x.shown(2), 0);
        refused(2, c -> c.shown(-1));
        refused(2, c -> c.shown(3));
        refused(2, c -> c.shown(MIN));
        refused(2, c -> c.shown(MAX));
        refused(2, Bounds::fresh, c -> c.shown(0));
        refused(2, Bounds::full, c -> c.shown(6));
        chart("coast 6 by 5; rock 29 deep 0; cousin a at 0 wide 6 high 5 tan 1 inked 0;");
        told(x.shown(0), 1 << 29 | 1);
        changesNothing(c -> c.shown(0));
    }
}
