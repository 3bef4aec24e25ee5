/** Promises 44 to 48: games of sun and rain, odds. */
final class BoundsOfGames extends Bounds {
    /** One rock, one cousin who has the cell. */
    private void duel(int depth, int tan) {
        chart("coast 1 by 1; rock 0 deep " + depth + "; cousin a at 0 wide 1 high 1 tan " + tan
                + ";");
    }

    private void games(int... due) {
        for (int turns = 0; turns < due.length; turns++) {
            told(x.game(turns), due[turns]);
        }
    }

    @Sentence(promise = 44, words = "GAME of n turns (0 to 4)")
    void noTurnToFour() {
        chart(SHORE);
        games(3, 3, 2, 2, 2);
        refused(5, c -> c.game(-1));
        refused(5, c -> c.game(5));
        refused(5, c -> c.game(MIN));
        refused(5, c -> c.game(MAX));
        refused(5, Bounds::fresh, c -> c.game(5));
        changesNothing(c -> c.game(0));
        changesNothing(c -> c.game(4));
        changesNothing(Bounds::full, c -> c.game(4));
        told(fresh().game(4), 0);
    }

    @Sentence(promise = 44, words = "by turns, the sun first, one has TAN of a bare COUSIN who has not 9 1"
            + " more (the rain: of one who has not 0 2 less, 0 at least), or does nothing")
    void oneMoreAndTwoLess() {
        duel(0, 0);
        games(0, 1, 0, 1, 0);
        duel(0, 1);
        games(1, 1, 0, 1, 0);
        duel(0, 2);
        games(1, 1, 1, 1, 0);
        duel(0, 3);
        games(1, 1, 1, 1, 1);
        duel(1, 0);
        games(0, 0, 0, 0, 0);
        duel(1, 1);
        games(0, 1, 0, 0, 0);
        duel(8, 8);
        games(0, 1, 0, 0, 0);
        // The sun can't go beyond 9, so that the rain comes from there.
        duel(7, 9);
        games(1, 1, 0, 1, 0);
        duel(6, 9);
        games(1, 1, 1, 1, 0);
        duel(9, 9);
        games(0, 0, 0, 0, 0);
        duel(0, 3);
        told(x.veil(0, true));
        games(0, 0, 0, 0, 0);
    }

    @Sentence(promise = 44, words = "in how many CELLS with a ROCK a SPOT SHOWS on one COUSIN or more in the"
            + " end, by best play (the sun wants many).")
    void cellsWithARockOnce() {
        chart("coast 3 by 1; rock 0 deep 0; rock 1 deep 9; cousin a at 0 wide 3 high 1 tan 3 inked 1"
                + " 2; cousin b at 0 wide 1 high 1 tan 3;");
        // 0 shows on both, 1 by its ink, 2 has no rock.
        games(2, 2, 2, 2, 2);
        told(x.wash(0), 2);
        games(1, 1, 1, 1, 1);
        told(x.veil(0, true));
        games(1, 1, 1, 1, 1);
        told(x.veil(1, true));
        games(0, 0, 0, 0, 0);
        // Two rocks, two cousins: what the sun brings to one the rain takes from the other.
        chart("coast 2 by 1; rock 0 deep 0; rock 1 deep 1; cousin a at 0 wide 1 high 1;"
                + " cousin b at 1 wide 1 high 1 tan 1;");
        games(0, 1, 0, 1, 0);
        told(x.sun(1, 1), 2);
        games(1, 2, 1, 1, 0);
        // Who is taken from 1 to 0 comes back by one sun.
        chart("coast 2 by 1; rock 0 deep 0; rock 1 deep 0; cousin a at 0 wide 1 high 1 tan 1;"
                + " cousin b at 1 wide 1 high 1 tan 1;");
        games(2, 2, 1, 2, 1);
        chart("coast 6 by 5; rock 0 deep 0; rock 29 deep 0; cousin a at 0 wide 6 high 5;");
        games(0, 2, 0, 2, 0);
    }

    @Sentence(promise = 45, words = "MOVE: the COUSIN (5: turns 0, too; 8: nothing).")
    void aMoveOfOneTurnToFour() {
        chart(SHORE);
        for (int turns = 1; turns <= 4; turns++) {
            same("a move", x.moveOf(turns) >= 0 ? 1 : 0, 1);
            same("STATUS", x.status(), 0);
        }
        refused(5, c -> c.moveOf(0));
        refused(5, c -> c.moveOf(5));
        refused(5, c -> c.moveOf(-1));
        refused(5, c -> c.moveOf(MIN));
        refused(5, c -> c.moveOf(MAX));
        refused(5, Bounds::fresh, c -> c.moveOf(0));
        refused(5, Bounds::fresh, c -> c.moveOf(5));
        refused(8, Bounds::fresh, c -> c.moveOf(1));
        refused(8, Bounds::fresh, c -> c.moveOf(4));
        refused(8, BoundsOfGames::unmoved, c -> c.moveOf(1));
        refused(8, BoundsOfGames::unmoved, c -> c.moveOf(4));
        changesNothing(c -> c.moveOf(1));
        changesNothing(c -> c.moveOf(4));
    }

    /** One has tan 9, one a veil: the sun can do nothing. */
    private static FreckleChart unmoved() {
        FreckleChart c = shore();
        c.sun(0, 9);
        c.sun(1, 9);
        return c;
    }

    @Sentence(promise = 45, words = "MOVE: the sun's first COUSIN, of all that are as good the first; nothing"
            + " comes last.")
    void theFirstOfAllThatAreAsGood() {
        // Nobody can bring out anything: the first who can be moved all the same.
        chart("coast 3 by 1; cousin a at 0 wide 1 high 1 tan 9; cousin b at 0 wide 1 high 1 veiled;"
                + " cousin d at 0 wide 1 high 1 tan 8; cousin e at 0 wide 1 high 1;");
        for (int turns = 1; turns <= 4; turns++) {
            told(x.moveOf(turns), 2);
        }
        told(x.rain(1), 2);
        told(x.moveOf(1), 0);
        // By the last alone a spot comes out.
        chart("coast 2 by 1; rock 0 deep 0; rock 1 deep 3; cousin a at 1 wide 1 high 1;"
                + " cousin b at 1 wide 1 high 1 tan 2; cousin d at 0 wide 1 high 1;"
                + " cousin e at 0 wide 1 high 1;");
        told(x.moveOf(1), 2);
        told(x.moveOf(2), 2 - 2);
        told(x.sun(2, 1), 1);
        told(x.moveOf(1), 0);
        // Nobody can be moved.
        chart("coast 2 by 1; cousin a at 0 wide 1 high 1 tan 9;");
        same("a move", x.moveOf(1), NONE);
        same("STATUS", x.status(), 8);
        told(x.rain(1), 1);
        told(x.moveOf(1), 0);
        told(x.veil(0, true));
        same("a move", x.moveOf(1), NONE);
        same("STATUS", x.status(), 8);
    }

    /** Fifteen rocks, all of ann, and the first so many of ben. */
    private void fifteen(int ofBen) {
        chart("coast 5 by 4;");
        for (int cell = 0; cell < 15; cell++) {
            told(x.wreck(cell, 0), cell);
        }
        told(x.born(0, 5, 3), 0);
        told(ofBen > 0 ? x.born(0, 5, ofBen / 5) : x.born(15, 5, 1), 1);
    }

    @Sentence(promise = 46, words = "The FRACTION is INFANT of two COUSINS, k 0 to 15 (2; 5: one and the"
            + " same, too).")
    void infantsOfNoneToFifteen() {
        fifteen(0);
        told(x.infant(0, 1, 0));
        fraction(1, 1);
        told(x.infant(0, 1, 15));
        fraction(1, 1 << 15);
        told(x.infant(1, 0, 14));
        fraction(1, 1 << 11);
        told(x.infant(0, 1, 1));
        fraction((1 << 15) - 1, 1 << 15);
        told(x.infant(0, 1, 8));
        fraction(1, 2);
        fifteen(15);
        told(x.infant(0, 1, 15));
        fraction(1, 1);
        fifteen(5);
        told(x.infant(0, 1, 5));
        fraction(1, 1);
        told(x.infant(0, 1, 6));
        fraction(1023, 1024);
        told(x.infant(0, 1, 15));
        fraction(1, 1024);
        refused(5, c -> of(c.infant(0, 1, -1)));
        refused(5, c -> of(c.infant(0, 1, 16)));
        refused(5, c -> of(c.infant(0, 1, MIN)));
        refused(5, c -> of(c.infant(0, 1, MAX)));
        refused(5, c -> of(c.infant(1, 1, 0)));
        refused(5, c -> of(c.infant(2, 2, 16)));
        refused(2, c -> of(c.infant(-1, 0, 0)));
        refused(2, c -> of(c.infant(0, -1, 0)));
        refused(2, c -> of(c.infant(3, 0, 0)));
        refused(2, c -> of(c.infant(0, 3, 0)));
        refused(2, c -> of(c.infant(3, 3, 16)));
        refused(2, c -> of(c.infant(0, 3, -1)));
        refused(2, Bounds::fresh, c -> of(c.infant(0, 0, 0)));
        x = shore();
        told(x.infant(2, 0, 15));
        told(x.infant(0, 2, 0));
        changesTheFraction(c -> of(c.infant(0, 1, 1)));
    }

    @Sentence(promise = 46, words = "INFANT of two COUSINS: it has a ROCK of both PATCHES surely, one of only"
            + " one of the PATCHES by 8 sixteenths: the odds that it has k or more.")
    void surelyOrByHalf() {
        // 7 is of both, 6 of ann alone, 13 of ben alone; veil, tan, ink and odds count for nothing.
        chart(SHORE);
        for (int odds = 0; odds <= 16; odds += 16) {
            told(x.rule(odds));
            told(x.infant(0, 1, 1));
            fraction(1, 1);
            told(x.infant(0, 1, 2));
            fraction(3, 4);
            told(x.infant(1, 0, 3));
            fraction(1, 4);
            told(x.infant(0, 1, 4));
            fraction(0, 1);
        }
        told(x.veil(0, true));
        told(x.infant(0, 1, 3));
        fraction(1, 4);
        told(x.wreck(0, 9), 3);
        told(x.infant(0, 1, 4));
        fraction(1, 8);
        // No rock of either patch.
        chart("rock 19 deep 0; cousin a at 0 wide 1 high 1; cousin b at 0 wide 2 high 1;");
        told(x.infant(0, 1, 0));
        fraction(1, 1);
        told(x.infant(0, 1, 1));
        fraction(0, 1);
    }

    @Sentence(promise = 47, words = "The FRACTION is FADES of a COUSIN, k 0 to 15 (2; 5).")
    void fadesOfNoneToFifteen() {
        fifteen(0);
        told(x.rule(1));
        told(x.sun(0, 1), 1);
        told(x.fades(0, 0));
        fraction(1, 1);
        told(x.fades(0, 15));
        fraction(1, 1L << 60);
        told(x.rule(15));
        told(x.fades(0, 1));
        fraction((1L << 60) - 1, 1L << 60);
        told(x.rule(8));
        told(x.fades(0, 15));
        fraction(1, 1 << 15);
        told(x.fades(0, 8));
        fraction(1, 2);
        refused(5, c -> of(c.fades(0, -1)));
        refused(5, c -> of(c.fades(0, 16)));
        refused(5, c -> of(c.fades(0, MIN)));
        refused(5, c -> of(c.fades(0, MAX)));
        refused(2, c -> of(c.fades(-1, 0)));
        refused(2, c -> of(c.fades(3, 0)));
        refused(2, c -> of(c.fades(3, 16)));
        refused(2, c -> of(c.fades(MIN, 0)));
        refused(2, c -> of(c.fades(MAX, 0)));
        refused(2, Bounds::fresh, c -> of(c.fades(0, 0)));
        x = shore();
        told(x.fades(2, 0));
        told(x.fades(2, 15));
        changesTheFraction(c -> of(c.fades(1, 1)));
    }

    @Sentence(promise = 47, words = "FADES: each ROCK in whose CELL a SPOT SHOWS on a COUSIN is overlooked by"
            + " ODDS sixteenths: the odds that k or more are.")
    void overlookedByNoneToAllSixteenths() {
        // Two rocks show, one of them by its ink; ink without a rock is none.
        chart("coast 4 by 1; rock 0 deep 2; rock 1 deep 9; rock 2 deep 3;"
                + " cousin a at 0 wide 4 high 1 tan 3 inked 1 3;");
        told(x.rule(0));
        told(x.fades(0, 0));
        fraction(1, 1);
        told(x.fades(0, 1));
        fraction(0, 1);
        told(x.rule(16));
        told(x.fades(0, 2));
        fraction(1, 1);
        told(x.fades(0, 3));
        fraction(0, 1);
        for (int odds = 0; odds <= 16; odds++) {
            told(x.rule(odds));
            told(x.fades(0, 2));
            same("of 256", x.top() * 256, odds * odds * x.bottom());
            told(x.fades(0, 1));
            same("of 256", x.top() * 256, (256 - (16 - odds) * (16 - odds)) * x.bottom());
        }
        told(x.veil(0, true));
        told(x.fades(0, 1));
        fraction(0, 1);
        told(x.fades(0, 0));
        fraction(1, 1);
    }

    @Sentence(promise = 48, words = "The FRACTION is the part of the CELLS of a PATCH in which a SPOT SHOWS"
            + " (2).")
    void noneToAllFreckled() {
        fifteen(0);
        told(x.freckled(0));
        fraction(0, 1);
        told(x.sun(0, 1), 1);
        told(x.freckled(0));
        fraction(1, 1);
        told(x.veil(0, true));
        told(x.freckled(0));
        fraction(0, 1);
        told(x.ink(1, 15), 1);
        told(x.freckled(1));
        fraction(1, 5);
        chart("coast 6 by 5; rock 29 deep 0; cousin a at 0 wide 6 high 5 tan 1 inked 0 1 2 29;");
        told(x.freckled(0));
        fraction(2, 15);
        refused(2, c -> of(c.freckled(-1)));
        refused(2, c -> of(c.freckled(3)));
        refused(2, c -> of(c.freckled(MIN)));
        refused(2, c -> of(c.freckled(MAX)));
        refused(2, Bounds::fresh, c -> of(c.freckled(0)));
        changesTheFraction(c -> of(c.freckled(1)));
    }
}
