/** Promises 36 to 40: what is wanted, forged, PARTED, COVERED. */
final class BoundsOfSpots extends Bounds {
    @Sentence(promise = 36, words = "WANTS: how much SUN it takes till a SPOT SHOWS on a COUSIN by the DEPTH"
            + " of each ROCK of the PATCH")
    void fromNoSunToNine() {
        for (int depth = 0; depth <= 8; depth++) {
            for (int tan = 0; tan <= 9; tan++) {
                chart("coast 2 by 1; rock 1 deep " + depth + "; rock 0 deep 0;"
                        + " cousin a at 1 wide 1 high 1 tan " + tan + ";");
                told(x.wants(0), Math.max(0, depth + 1 - tan));
            }
        }
        chart("coast 3 by 1; rock 0 deep 2; rock 1 deep 6; rock 2 deep 4;"
                + " cousin a at 0 wide 3 high 1 tan 3; cousin b at 2 wide 1 high 1 tan 3;");
        told(x.wants(0), 4);
        told(x.wants(1), 2);
        // No rock in the patch: no sun is wanted.
        chart("coast 3 by 1; rock 0 deep 8; cousin a at 1 wide 2 high 1;");
        told(x.wants(0), 0);
    }

    @Sentence(promise = 36, words = "(VEILED or not; INKED ones count as if they were not: also where a SPOT"
            + " SHOWS already by its INK).")
    void veilAndInkCountForNothing() {
        chart("coast 2 by 1; rock 0 deep 8; cousin a at 0 wide 2 high 1;");
        told(x.wants(0), 9);
        told(x.ink(0, 0), 1);
        told(x.shown(0), 1);
        told(x.wants(0), 9);
        told(x.ink(0, 1), 2);
        told(x.wants(0), 9);
        told(x.veil(0, true));
        told(x.wants(0), 9);
        told(x.veil(0, false));
        told(x.sun(0, 8), 8);
        told(x.wants(0), 1);
        told(x.sun(0, 1), 9);
        told(x.wants(0), 0);
        told(x.veil(0, true));
        told(x.wants(0), 0);
    }

    private static FreckleChart deepest() {
        FreckleChart c = shore();
        c.wreck(2, 9);
        return c;
    }

    @Sentence(promise = 36, words = "WANTS (2; 9: there is a ROCK with DEPTH 9).")
    void noSunShowsARockOfDepthNine() {
        refused(9, BoundsOfSpots::deepest, c -> c.wants(0));
        refused(9, BoundsOfSpots::deepest, c -> c.wants(1));
        refused(9, Bounds::full, c -> c.wants(0));
        refused(9, Bounds::full, c -> c.wants(3));
        refused(2, c -> c.wants(-1));
        refused(2, c -> c.wants(3));
        refused(2, c -> c.wants(MIN));
        refused(2, c -> c.wants(MAX));
        refused(2, BoundsOfSpots::deepest, c -> c.wants(3));
        refused(2, Bounds::fresh, c -> c.wants(0));
        x = shore();
        told(x.wants(0), 3);
        told(x.wants(1), 0);
        told(x.wants(2), 1);
        changesNothing(c -> c.wants(0));
        // Inked or not, on one with tan 9 too.
        chart("coast 1 by 1; rock 0 deep 9; cousin a at 0 wide 1 high 1 tan 9 inked 0;");
        same("wants", x.wants(0), NONE);
        same("STATUS", x.status(), 9);
    }

    @Sentence(promise = 37, words = "How many CELLS are INKED of a COUSIN in which there is no ROCK (2).")
    void noneToSixForged() {
        chart("coast 6 by 5; rock 0 deep 9; rock 7 deep 0;"
                + " cousin a at 0 wide 6 high 5 inked 1 2 3 4 5 6;"
                + " cousin b at 0 wide 6 high 5 inked 0 7 29; cousin d at 0 wide 6 high 5;"
                + " cousin e at 0 wide 1 high 1 veiled inked 0;");
        told(x.forged(0), 6);
        told(x.forged(1), 1);
        told(x.forged(2), 0);
        told(x.forged(3), 0);
        told(x.wreck(29, 9), 2);
        told(x.forged(1), 0);
        told(x.veil(0, true));
        told(x.forged(0), 6);
        told(x.wash(0), 6);
        told(x.forged(0), 0);
        refused(2, c -> c.forged(-1));
        refused(2, c -> c.forged(3));
        refused(2, c -> c.forged(MIN));
        refused(2, c -> c.forged(MAX));
        refused(2, Bounds::fresh, c -> c.forged(0));
        changesNothing(c -> c.forged(1));
    }

    @Sentence(promise = 38, words = "PARTED by a CELL are two COUSINS who both have it in their PATCHES, if"
            + " a SPOT SHOWS there on one of them alone (on a VEILED one nothing SHOWS).")
    void oneOfThemAlone() {
        chart("coast 4 by 1; rock 1 deep 3; rock 2 deep 4; cousin a at 0 wide 3 high 1 tan 4 inked 0;"
                + " cousin b at 1 wide 3 high 1 tan 5 inked 3; cousin d at 3 wide 1 high 1;");
        // Both show 1, b alone 2; 0 and 3 are of one patch only.
        told(x.parted(0, 1), set(2));
        told(x.parted(1, 0), set(2));
        told(x.sun(0, 1), 5);
        told(x.parted(0, 1), 0);
        told(x.veil(0, true));
        told(x.parted(0, 1), set(1, 2));
        told(x.veil(1, true));
        told(x.parted(0, 1), 0);
        told(x.veil(1, false));
        told(x.parted(1, 2), set(3));
        told(x.parted(0, 2), 0);
        chart("coast 6 by 5; cousin a at 29 wide 1 high 1 inked 29; cousin b at 29 wide 1 high 1;");
        told(x.parted(0, 1), 1 << 29);
    }

    @Sentence(promise = 38, words = "The set of CELLS by which two COUSINS are PARTED (2; 5: one and the"
            + " same).")
    void twoCousinsAndNotOne() {
        refused(5, c -> c.parted(0, 0));
        refused(5, c -> c.parted(2, 2));
        refused(2, c -> c.parted(-1, 0));
        refused(2, c -> c.parted(0, -1));
        refused(2, c -> c.parted(3, 0));
        refused(2, c -> c.parted(0, 3));
        refused(2, c -> c.parted(3, 3));
        refused(2, c -> c.parted(-1, -1));
        refused(2, c -> c.parted(MIN, MAX));
        refused(2, Bounds::fresh, c -> c.parted(0, 0));
        changesNothing(c -> c.parted(0, 1));
    }

    private void cover(int set) {
        told(x.cover(), Integer.bitCount(set));
        told(x.coverSet(), set);
    }

    private static FreckleChart uncovered() {
        FreckleChart c = shore();
        c.coast(0);
        c.wreck(3, 1);
        c.born(2, 1, 4);
        c.born(4, 1, 4);
        return c;
    }

    @Sentence(promise = 39, words = "COVER: how many (8: not by all).")
    void notByAll() {
        refused(8, BoundsOfSpots::uncovered, c -> c.cover());
        x = uncovered();
        told(x.born(3, 1, 1), 2);
        cover(4);
        x = new FreckleChart();
        told(x.wreck(0, 0), 0);
        same("cover by nobody", x.cover(), NONE);
        same("STATUS", x.status(), 8);
        changesNothing(c -> c.cover());
    }

    @Sentence(promise = 40, words = "COVER: the set (8).")
    void noSetOfAll() {
        refused(8, BoundsOfSpots::uncovered, c -> c.coverSet());
        x = new FreckleChart();
        told(x.wreck(19, 9), 0);
        same("cover by nobody", x.coverSet(), NONE);
        same("STATUS", x.status(), 8);
        changesNothing(c -> c.coverSet());
    }

    @Sentence(promise = 40, words = "COVER: the fewest COUSINS by whom, VEILED or not, each ROCK is in a"
            + " PATCH of one of them; of several sets the least as a number.")
    void fromNobodyToSix() {
        cover(0);
        StringBuilder text = new StringBuilder("coast 6 by 1;");
        for (int i = 0; i < 6; i++) {
            text.append("cousin ").append((char) ('a' + i)).append(" at ").append(i)
                    .append(" wide 1 high 1;");
        }
        chart(text.toString());
        cover(0);
        for (int cell = 0; cell < 6; cell++) {
            told(x.wreck(cell, 9), cell);
            cover((2 << cell) - 1);
        }
        told(x.veil(5, true));
        cover(63);
        // By 0 and 3, or by 1 and 2: 6 is less than 9.
        chart("coast 2 by 2; rock 0 deep 0; rock 1 deep 0; rock 2 deep 0; rock 3 deep 0;"
                + " cousin a at 0 wide 2 high 1; cousin b at 0 wide 1 high 2;"
                + " cousin d at 1 wide 1 high 2; cousin e at 2 wide 2 high 1;");
        cover(6);
        told(x.born(0, 2, 2), 4);
        cover(16);
        told(x.veil(4, true));
        cover(16);
        told(x.born(0, 2, 2), 5);
        cover(16);
    }
}
