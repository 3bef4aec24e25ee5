/** Promises 28 to 35: charts, ways, where a ship STRIKES, who is SAFE. */
final class BoundsOfWays extends Bounds {
    private static final String OPEN_3_BY_3 = "coast 3 by 3; cousin a at 0 wide 3 high 3;";

    private void way(int cousins, int from, int to, int... cells) {
        told(x.way(cousins, from, to), cells.length);
        for (int k = 0; k < cells.length; k++) {
            told(x.wayAt(cousins, from, to, k), cells[k]);
        }
        same("behind the way", x.wayAt(cousins, from, to, cells.length), NONE);
        same("STATUS", x.status(), 8);
    }

    private void noWay(int cousins, int from, int to) {
        same("a way from " + from + " to " + to, x.way(cousins, from, to), NONE);
        same("STATUS", x.status(), 8);
    }

    @Sentence(promise = 28, words = "The set of CELLS CHARTED by a set of COUSINS (5).")
    void chartedByNobodyToAll() {
        x = shore();
        told(x.charted(0), 0);
        told(x.charted(ANN), set(0, 1, 2, 5, 6, 7, 10, 11, 12));
        told(x.charted(BEN), set(2, 3, 4, 7, 8, 9, 12, 13, 14));
        told(x.charted(7), (1 << 15) - 1);
        refused(5, c -> c.charted(8));
        refused(5, c -> c.charted(9));
        refused(5, c -> c.charted(-1));
        refused(5, c -> c.charted(MIN));
        refused(5, c -> c.charted(MAX));
        refused(5, c -> c.charted(MIN | 1));
        refused(5, Bounds::full, c -> c.charted(64));
        refused(5, Bounds::fresh, c -> c.charted(1));
        told(full().charted(63), (1 << 15) - 1);
        told(x.many(0), 5);
        changesNothing(c -> c.charted(7));
    }

    @Sentence(promise = 28, words = "CHARTED by a set of COUSINS are the CELLS of the PATCHES of those of"
            + " them who are bare")
    void nothingIsChartedByTheVeiled() {
        chart(SHORE);
        told(x.charted(CYD), 0);
        told(x.charted(ANN | CYD), set(0, 1, 2, 5, 6, 7, 10, 11, 12));
        told(x.veil(2, false));
        told(x.charted(CYD), set(10, 11, 12, 13, 14));
        told(x.charted(ANN | CYD), set(0, 1, 2, 5, 6, 7, 10, 11, 12, 13, 14));
        told(x.veil(0, true));
        told(x.charted(ANN), 0);
        chart("coast 6 by 5; cousin a at 0 wide 6 high 5;");
        told(x.charted(1), (1 << 30) - 1);
    }

    @Sentence(promise = 29, words = "The set of CELLS that are OPEN by a set of COUSINS (5).")
    void openByNobodyToAll() {
        chart(SHORE);
        told(x.open(0), 0);
        told(x.open(ANN), set(0, 1, 2, 5, 7, 10, 11, 12));
        told(x.open(7), (1 << 15) - 1 - set(4, 6, 7, 13));
        chart("coast 6 by 5; cousin a at 0 wide 6 high 5 inked 29;");
        told(x.open(1), (1 << 29) - 1);
        told(x.wash(0), 1);
        told(x.open(1), (1 << 30) - 1);
        told(x.ink(0, 0), 1);
        told(x.open(1), (1 << 30) - 2);
        refused(5, c -> c.open(8));
        refused(5, c -> c.open(-1));
        refused(5, c -> c.open(MIN));
        refused(5, c -> c.open(MAX));
        refused(5, c -> c.open(MIN | 1));
        refused(5, Bounds::full, c -> c.open(64));
        refused(5, Bounds::fresh, c -> c.open(1));
        changesNothing(c -> c.open(7));
    }

    @Sentence(promise = 29, words = "OPEN are the CHARTED CELLS in which on none of them a SPOT SHOWS.")
    void oneSpotOnOneOfThemCloses() {
        chart("coast 3 by 1; rock 1 deep 0; cousin a at 0 wide 3 high 1;"
                + " cousin b at 0 wide 2 high 1 tan 1; cousin d at 1 wide 1 high 1 tan 9 veiled;"
                + " cousin e at 2 wide 1 high 1 inked 2;");
        told(x.open(1), set(0, 1, 2));
        told(x.open(2), set(0));
        told(x.open(3), set(0, 2));
        told(x.open(4), 0);
        told(x.open(5), set(0, 1, 2));
        told(x.open(8), 0);
        told(x.open(9), set(0, 1));
        told(x.open(15), set(0));
        told(x.veil(2, false));
        told(x.open(5), set(0, 2));
        told(x.veil(1, true));
        told(x.open(3), set(0, 1, 2));
        // Two who show the same spot close its cell like one.
        chart("coast 2 by 1; rock 0 deep 0; cousin a at 0 wide 2 high 1 tan 1;"
                + " cousin b at 0 wide 2 high 1 tan 9; cousin d at 0 wide 2 high 1 inked 0;");
        told(x.open(3), set(1));
        told(x.open(5), set(1));
        told(x.open(7), set(1));
    }

    @Sentence(promise = 30, words = "WAY by a set of COUSINS from a CELL to another one: the fewest CELLS,"
            + " all of them OPEN")
    void theFirstAndTheLastCellAreOpenToo() {
        chart("coast 3 by 1; cousin a at 0 wide 3 high 1;");
        way(1, 0, 2, 0, 1, 2);
        way(1, 2, 0, 2, 1, 0);
        way(1, 1, 1, 1);
        way(1, 0, 0, 0);
        way(1, 2, 2, 2);
        told(x.ink(0, 2), 1);
        noWay(1, 0, 2);
        noWay(1, 2, 0);
        noWay(1, 2, 2);
        way(1, 0, 1, 0, 1);
        told(x.wash(0), 1);
        told(x.ink(0, 1), 1);
        noWay(1, 0, 2);
        way(1, 2, 2, 2);
        noWay(0, 0, 0);
    }

    @Sentence(promise = 30, words = "the next one each time beside the one ahead (with a side in common)")
    void besideIsNotAcrossACornerNorAnEdge() {
        for (int wide = 1; wide <= 6; wide++) {
            for (int high = 1; high <= 5; high++) {
                chart("coast " + wide + " by " + high + "; cousin a at 0 wide " + wide + " high "
                        + high + ";");
                for (int from = 0; from < wide * high; from++) {
                    for (int to = 0; to < Math.min(wide * high, 13); to++) {
                        int cells = 1 + Math.abs(from % wide - to % wide)
                                + Math.abs(from / wide - to / wide);
                        same("way", x.way(1, from, to), cells);
                    }
                }
            }
        }
        chart("coast 2 by 2; cousin a at 0 wide 2 high 2 inked 1 2;");
        noWay(1, 0, 3);
        noWay(1, 3, 0);
        chart("coast 3 by 2; cousin a at 0 wide 3 high 2 inked 1 4;");
        noWay(1, 2, 3);
        noWay(1, 3, 2);
        way(1, 2, 5, 2, 5);
        chart("coast 6 by 5; cousin a at 5 wide 1 high 1; cousin b at 6 wide 1 high 1;"
                + " cousin d at 24 wide 1 high 1; cousin e at 23 wide 1 high 1;");
        noWay(3, 5, 6);
        noWay(3, 6, 5);
        noWay(12, 24, 23);
        // The edges are those of the coast that is there now.
        told(Texts.coast(x, "coast 5 by 5; cousin a at 0 wide 5 high 5;"), 1);
        told(x.way(1, 5, 6), 2);
        told(x.way(1, 11, 12), 2);
        told(x.way(1, 17, 18), 2);
        told(x.way(1, 23, 24), 2);
        told(x.way(1, 4, 5), 6);
        // From the last row nothing goes on to the first one.
        chart("coast 6 by 5; cousin a at 0 wide 6 high 1; cousin b at 24 wide 6 high 1;");
        noWay(3, 0, 24);
        noWay(3, 29, 5);
        way(3, 29, 24, 29, 28, 27, 26, 25, 24);
    }

    @Sentence(promise = 30, words = "the fewest CELLS")
    void theLongestWayAbout() {
        chart("coast 6 by 5; rock 6 deep 0; rock 7 deep 0; rock 8 deep 0; rock 9 deep 0;"
                + "rock 10 deep 0; rock 19 deep 0; rock 20 deep 0; rock 21 deep 0; rock 22 deep 0;"
                + "rock 23 deep 0; cousin a at 0 wide 6 high 5 tan 1;");
        way(1, 0, 29, 0, 1, 2, 3, 4, 5, 11, 17, 16, 15, 14, 13, 12, 18, 24, 25, 26, 27, 28, 29);
        way(1, 29, 0, 29, 28, 27, 26, 25, 24, 18, 12, 13, 14, 15, 16, 17, 11, 5, 4, 3, 2, 1, 0);
        told(x.rain(1), 1);
        told(x.way(1, 0, 29), 10);
    }

    @Sentence(promise = 30, words = "WAY: how many CELLS (2; 5; 8: there is none).")
    void waysThatCannotBe() {
        refused(2, c -> c.way(ANN, -1, 0));
        refused(2, c -> c.way(ANN, 15, 0));
        refused(2, c -> c.way(ANN, 0, -1));
        refused(2, c -> c.way(ANN, 0, 15));
        refused(2, c -> c.way(ANN, MIN, 0));
        refused(2, c -> c.way(ANN, 0, MAX));
        refused(5, c -> c.way(8, 0, 0));
        refused(5, c -> c.way(-1, 0, 0));
        refused(5, c -> c.way(MIN | 1, 0, 0));
        refused(5, c -> c.way(MAX, 0, 0));
        refused(8, c -> c.way(ANN, 0, 4));
        refused(8, c -> c.way(0, 0, 0));
        refused(8, c -> c.way(CYD, 10, 11));
        refused(2, c -> c.way(8, 15, 0));
        refused(2, c -> c.way(8, 0, 15));
        refused(5, c -> c.way(8, 0, 4));
        changesNothing(c -> c.way(ANN, 0, 12));
    }

    @Sentence(promise = 31, words = "of several the first by CELLS, one by one.")
    void theFirstOfSeveralWays() {
        chart(OPEN_3_BY_3);
        way(1, 0, 8, 0, 1, 2, 5, 8);
        way(1, 8, 0, 8, 5, 2, 1, 0);
        way(1, 2, 6, 2, 1, 0, 3, 6);
        way(1, 6, 2, 6, 3, 0, 1, 2);
        way(1, 4, 0, 4, 1, 0);
        way(1, 4, 8, 4, 5, 8);
        told(x.ink(0, 2), 1);
        way(1, 0, 8, 0, 1, 4, 5, 8);
        way(1, 8, 0, 8, 5, 4, 1, 0);
        told(x.ink(0, 5), 2);
        way(1, 0, 8, 0, 1, 4, 7, 8);
        told(x.ink(0, 1), 3);
        way(1, 0, 8, 0, 3, 4, 7, 8);
        told(x.ink(0, 4), 4);
        way(1, 0, 8, 0, 3, 6, 7, 8);
        // The least cell next to the start is open, but the way through it is longer.
        chart("coast 3 by 4; cousin a at 0 wide 3 high 4 inked 4 5;");
        way(1, 3, 9, 3, 6, 9);
        way(1, 1, 10, 1, 0, 3, 6, 7, 10);
        way(1, 2, 8, 2, 1, 0, 3, 6, 7, 8);
    }

    @Sentence(promise = 31, words = "WAY: the k-th CELL (0 on) (2; 5; 8: no WAY, no such place).")
    void placesOfAWay() {
        x = shore();
        told(x.wayAt(ANN, 0, 1, 0), 0);
        told(x.wayAt(ANN, 0, 1, 1), 1);
        told(x.wayAt(ANN, 0, 0, 0), 0);
        refused(8, c -> c.wayAt(ANN, 0, 1, 2));
        refused(8, c -> c.wayAt(ANN, 0, 1, -1));
        refused(8, c -> c.wayAt(ANN, 0, 0, 1));
        refused(8, c -> c.wayAt(ANN, 0, 1, MIN));
        refused(8, c -> c.wayAt(ANN, 0, 1, MAX));
        refused(8, c -> c.wayAt(ANN, 0, 4, 0));
        refused(2, c -> c.wayAt(8, 15, 0, -1));
        refused(2, c -> c.wayAt(8, 0, 15, -1));
        refused(2, c -> c.wayAt(ANN, -1, 0, 0));
        refused(2, c -> c.wayAt(ANN, 0, -1, 0));
        refused(5, c -> c.wayAt(8, 0, 4, -1));
        refused(5, c -> c.wayAt(-1, 0, 0, 0));
        changesNothing(c -> c.wayAt(ANN, 0, 12, 4));
    }

    @Sentence(promise = 32, words = "A ship of a DRAFT (1 to 10) STRIKES in the first CELL of it in which a"
            + " ROCK has a DEPTH below DRAFT.")
    void aDepthBelowTheDraft() {
        for (int depth = 0; depth <= 9; depth++) {
            chart("coast 3 by 1; rock 1 deep " + depth + "; cousin a at 0 wide 3 high 1;");
            for (int draft = 1; draft <= 10; draft++) {
                same("strikes", x.strikes(1, 0, 2, draft), depth < draft ? 1 : NONE);
                same("STATUS", x.status(), depth < draft ? 0 : 8);
            }
        }
        chart("coast 3 by 1; rock 0 deep 2; rock 1 deep 1; rock 2 deep 2;"
                + " cousin a at 0 wide 3 high 1;");
        told(x.strikes(1, 0, 2, 2), 1);
        told(x.strikes(1, 0, 2, 3), 0);
        told(x.strikes(1, 2, 0, 3), 2);
        told(x.strikes(1, 0, 0, 3), 0);
        same("strikes", x.strikes(1, 0, 0, 2), NONE);
        same("STATUS", x.status(), 8);
        same("strikes", x.strikes(1, 0, 2, 1), NONE);
        same("STATUS", x.status(), 8);
        chart("coast 6 by 5; rock 29 deep 5; rock 0 deep 5; cousin a at 0 wide 6 high 5;");
        told(x.strikes(1, 1, 29, 6), 29);
        told(x.strikes(1, 1, 0, 6), 0);
    }

    @Sentence(promise = 32, words = "In which CELL of the WAY a ship with a DRAFT (1 to 10) would STRIKE (2;"
            + " 5; 8: there is no WAY, it would not).")
    void strikesThatCannotBe() {
        x = shore();
        told(x.strikes(ANN, 0, 12, 10), 7);
        told(x.strikes(ANN, 0, 12, 6), 7);
        refused(8, c -> c.strikes(ANN, 0, 12, 5));
        refused(8, c -> c.strikes(ANN, 0, 12, 1));
        refused(8, c -> c.strikes(ANN, 0, 6, 10));
        refused(8, c -> c.strikes(ANN, 0, 4, 10));
        refused(5, c -> c.strikes(ANN, 0, 12, 0));
        refused(5, c -> c.strikes(ANN, 0, 12, 11));
        refused(5, c -> c.strikes(ANN, 0, 12, MIN));
        refused(5, c -> c.strikes(ANN, 0, 12, MAX));
        refused(5, c -> c.strikes(8, 0, 12, 10));
        refused(5, c -> c.strikes(-1, 0, 12, 10));
        refused(5, c -> c.strikes(ANN, 0, 4, 11));
        refused(2, c -> c.strikes(ANN, 15, 12, 10));
        refused(2, c -> c.strikes(ANN, 0, 15, 10));
        refused(2, c -> c.strikes(ANN, -1, 12, 10));
        refused(2, c -> c.strikes(ANN, 0, -1, 10));
        refused(2, c -> c.strikes(8, 0, 15, 11));
        changesNothing(c -> c.strikes(ANN, 0, 12, 10));
    }

    private void fewest(int from, int to, int draft, int set) {
        told(x.fewest(from, to, draft), Integer.bitCount(set));
        told(x.fewestSet(from, to, draft), set);
    }

    private void noneAreSafe(int from, int to, int draft) {
        same("fewest", x.fewest(from, to, draft), NONE);
        same("STATUS", x.status(), 8);
        same("fewestSet", x.fewestSet(from, to, draft), NONE);
        same("STATUS", x.status(), 8);
    }

    @Sentence(promise = 33, words = "SAFE is a set of COUSINS for two CELLS and a DRAFT, if there is a WAY"
            + " and the ship does not STRIKE.")
    void safeForDraftsUpToADepth() {
        for (int depth = 0; depth <= 9; depth++) {
            chart("coast 3 by 1; rock 1 deep " + depth + "; cousin a at 0 wide 3 high 1;");
            for (int draft = 1; draft <= 10; draft++) {
                if (depth < draft) {
                    noneAreSafe(0, 2, draft);
                } else {
                    fewest(0, 2, draft, 1);
                }
            }
            fewest(0, 0, 10, 1);
        }
        chart("coast 6 by 5; rock 29 deep 5; rock 0 deep 5; cousin a at 0 wide 6 high 5;");
        fewest(0, 29, 5, 1);
        noneAreSafe(0, 1, 6);
        noneAreSafe(1, 0, 6);
        noneAreSafe(1, 29, 6);
        noneAreSafe(29, 1, 6);
        fewest(1, 28, 10, 1);
        told(x.deepest(1, 0, 1), 5);
        told(x.deepest(1, 1, 0), 5);
        told(x.deepest(1, 28, 29), 5);
    }

    @Sentence(promise = 33, words = "FEWEST: how many (2; 5; 8: none are SAFE).")
    void fewestThatCannotBe() {
        refused(8, c -> c.fewest(0, 4, 1));
        refused(8, c -> c.fewest(6, 6, 3));
        refused(8, Bounds::fresh, c -> c.fewest(0, 0, 1));
        refused(5, c -> c.fewest(0, 12, 0));
        refused(5, c -> c.fewest(0, 12, 11));
        refused(5, c -> c.fewest(0, 12, MIN));
        refused(5, c -> c.fewest(0, 12, MAX));
        refused(5, c -> c.fewest(0, 4, 11));
        refused(2, c -> c.fewest(-1, 0, 1));
        refused(2, c -> c.fewest(15, 0, 1));
        refused(2, c -> c.fewest(0, -1, 1));
        refused(2, c -> c.fewest(0, 15, 1));
        refused(2, c -> c.fewest(0, 15, 11));
        refused(2, c -> c.fewest(MIN, 0, 0));
        changesNothing(c -> c.fewest(0, 12, 5));
    }

    @Sentence(promise = 34, words = "FEWEST: the set (2; 5; 8).")
    void fewestSetThatCannotBe() {
        refused(8, c -> c.fewestSet(0, 4, 1));
        refused(8, Bounds::fresh, c -> c.fewestSet(0, 0, 1));
        refused(5, c -> c.fewestSet(0, 12, 0));
        refused(5, c -> c.fewestSet(0, 12, 11));
        refused(5, c -> c.fewestSet(0, 4, 11));
        refused(2, c -> c.fewestSet(-1, 0, 1));
        refused(2, c -> c.fewestSet(15, 0, 1));
        refused(2, c -> c.fewestSet(0, -1, 1));
        refused(2, c -> c.fewestSet(0, 15, 11));
        refused(2, c -> c.fewestSet(0, MAX, 1));
        changesNothing(c -> c.fewestSet(0, 12, 5));
    }

    @Sentence(promise = 34, words = "FEWEST: the fewest COUSINS that are SAFE; of several sets the least as a"
            + " number (1 for COUSIN 0 ..).")
    void fromOneCousinToSix() {
        StringBuilder text = new StringBuilder("coast 6 by 1;");
        for (int i = 0; i < 6; i++) {
            text.append("cousin ").append((char) ('a' + i)).append(" at ").append(i)
                    .append(" wide 1 high 1;");
        }
        chart(text.toString());
        for (int to = 0; to < 6; to++) {
            fewest(0, to, 10, (2 << to) - 1);
        }
        fewest(5, 5, 10, 32);
        fewest(5, 4, 10, 48);
        // The last one alone is fewer than the first two.
        chart("coast 2 by 1; cousin a at 0 wide 1 high 1; cousin b at 1 wide 1 high 1;"
                + " cousin d at 0 wide 2 high 1;");
        fewest(0, 1, 1, 4);
        fewest(0, 0, 1, 1);
        fewest(1, 1, 1, 2);
        // By 0 and 3 round about, by 1 and 2 straight on: 6 is less than 9.
        chart("coast 3 by 2; cousin a at 0 wide 2 high 2 inked 1; cousin b at 0 wide 1 high 1;"
                + " cousin d at 1 wide 2 high 1; cousin e at 2 wide 1 high 2;");
        fewest(0, 2, 10, 6);
        told(x.veil(1, true));
        fewest(0, 2, 10, 9);
        told(x.veil(3, true));
        noneAreSafe(0, 2, 10);
    }

    @Sentence(promise = 34, words = "if there is a WAY and the ship does not STRIKE")
    void whoKnowsTheRockMakesItSafe() {
        // Alone, a goes over the rock; with b, who shows it, about it; b alone has no way.
        chart("coast 3 by 2; rock 1 deep 4; cousin a at 0 wide 3 high 2;"
                + " cousin b at 1 wide 1 high 1 tan 5;");
        fewest(0, 2, 4, 1);
        fewest(0, 2, 5, 3);
        told(x.strikes(1, 0, 2, 5), 1);
        // A chart of more cells can lead over a rock.
        chart("coast 3 by 2; rock 1 deep 0; cousin a at 1 wide 1 high 1;"
                + " cousin b at 0 wide 1 high 2; cousin d at 4 wide 1 high 1;"
                + " cousin e at 2 wide 1 high 2;");
        fewest(0, 2, 1, 14);
        same("by all a ship strikes", x.strikes(15, 0, 2, 1), 1);
    }

    @Sentence(promise = 35, words = "The greatest DRAFT (1 to 10) for which a set of COUSINS is SAFE (2; 5;"
            + " 8: for none).")
    void theDeepestDraft() {
        for (int depth = 1; depth <= 9; depth++) {
            chart("coast 3 by 1; rock 1 deep " + depth + "; rock 0 deep 9;"
                    + " cousin a at 0 wide 3 high 1;");
            told(x.deepest(1, 0, 2), depth);
            told(x.deepest(1, 0, 0), 9);
            told(x.deepest(1, 2, 2), 10);
        }
        chart("coast 3 by 1; rock 1 deep 0; cousin a at 0 wide 3 high 1;");
        same("over a rock of depth 0", x.deepest(1, 0, 2), NONE);
        same("STATUS", x.status(), 8);
        same("on a rock of depth 0", x.deepest(1, 1, 1), NONE);
        same("STATUS", x.status(), 8);
        refused(8, c -> c.deepest(ANN, 0, 4));
        refused(8, c -> c.deepest(0, 0, 0));
        refused(5, c -> c.deepest(8, 0, 4));
        refused(5, c -> c.deepest(-1, 0, 0));
        refused(5, c -> c.deepest(MAX, 0, 0));
        refused(2, c -> c.deepest(8, 15, 0));
        refused(2, c -> c.deepest(ANN, -1, 0));
        refused(2, c -> c.deepest(ANN, 0, -1));
        refused(2, c -> c.deepest(ANN, 0, 15));
        changesNothing(c -> c.deepest(ANN, 0, 12));
    }
}
