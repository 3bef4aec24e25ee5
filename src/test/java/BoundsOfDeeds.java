/** Promises 19 to 27: what is done, as far as it can be. */
final class BoundsOfDeeds extends Bounds {
    private static final String ONE = "coast 2 by 1; cousin a at 0 wide 2 high 1";

    @Sentence(promise = 19, words = "SUN of a COUSIN (1 to 9): TAN then (2; 5; 9: VEILED, TAN 9).")
    void sunOfOneToNine() {
        chart(ONE + ";");
        told(x.sun(0, 1), 1);
        told(x.sun(0, 8), 9);
        chart(ONE + ";");
        told(x.sun(0, 9), 9);
        refused(5, c -> c.sun(0, 0));
        refused(5, c -> c.sun(0, 10));
        refused(5, c -> c.sun(0, -1));
        refused(5, c -> c.sun(0, MIN));
        refused(5, c -> c.sun(0, MAX));
        refused(2, c -> c.sun(-1, 1));
        refused(2, c -> c.sun(3, 1));
        refused(2, c -> c.sun(MAX, 1));
        refused(2, c -> c.sun(MIN, 1));
        refused(2, Bounds::full, c -> c.sun(6, 1));
        refused(9, c -> c.sun(2, 1));
        refused(9, Bounds::full, c -> c.sun(0, 1));
        refused(9, Bounds::full, c -> c.sun(2, 9));
        refused(9, Bounds::full, c -> c.sun(3, 1));
    }

    @Sentence(promise = 19, words = "SUN of a COUSIN who is bare: TAN is so much more (9 at most).")
    void tanIsNineAtMost() {
        for (int tan = 0; tan < 9; tan++) {
            for (int much = 1; much <= 9; much++) {
                chart(ONE + " tan " + tan + "; cousin b at 0 wide 1 high 1 tan 4;");
                told(x.sun(0, much), Math.min(9, tan + much));
                told(x.cousin(0, 3), Math.min(9, tan + much));
                told(x.cousin(1, 3), 4);
            }
        }
    }

    @Sentence(promise = 19, words = "STATUS of a call is the first of these that holds")
    void whoBeforeHowMuchBeforeWhetherItCanBe() {
        refused(2, c -> c.sun(3, 0));
        refused(2, c -> c.sun(-1, 10));
        refused(5, c -> c.sun(2, 0));
        refused(5, c -> c.sun(2, 10));
        refused(5, Bounds::full, c -> c.sun(0, 10));
        refused(5, Bounds::full, c -> c.sun(0, 0));
    }

    @Sentence(promise = 20, words = "RAIN (1 to 9): how many COUSINS grow paler (5).")
    void rainOfOneToNine() {
        chart(SHORE);
        told(x.rain(1), 2);
        told(x.cousin(0, 3), 2);
        told(x.cousin(1, 3), 5);
        told(x.rain(9), 2);
        told(x.cousin(0, 3), 0);
        told(x.cousin(1, 3), 0);
        told(x.rain(9), 0);
        told(x.rain(1), 0);
        refused(5, c -> c.rain(0));
        refused(5, c -> c.rain(10));
        refused(5, c -> c.rain(-1));
        refused(5, c -> c.rain(MIN));
        refused(5, c -> c.rain(MAX));
        refused(5, Bounds::fresh, c -> c.rain(0));
        changesNothing(Bounds::fresh, c -> c.rain(1));
    }

    @Sentence(promise = 20, words = "RAIN: TAN of each bare COUSIN is so much less (0 at least).")
    void tanIsZeroAtLeast() {
        for (int tan = 0; tan <= 9; tan++) {
            for (int much = 1; much <= 9; much++) {
                chart(ONE + " tan " + tan + "; cousin b at 0 wide 1 high 1 tan " + tan
                        + " veiled; cousin d at 0 wide 1 high 1 tan 9;");
                told(x.rain(much), tan > 0 ? 2 : 1);
                told(x.cousin(0, 3), Math.max(0, tan - much));
                told(x.cousin(1, 3), tan);
                told(x.cousin(2, 3), 9 - much);
            }
        }
    }

    @Sentence(promise = 21, words = "A COUSIN is VEILED, or bare (2; 9: it is so).")
    void aVeilOnceOnAndOnceOff() {
        chart(SHORE);
        told(x.veil(0, true));
        told(x.cousin(0, 4), 1);
        told(x.veil(0, false));
        told(x.cousin(0, 4), 0);
        told(x.veil(2, false));
        told(x.many(7), 0);
        told(x.cousin(0, 3), 3);
        refused(9, c -> of(c.veil(0, false)));
        refused(9, c -> of(c.veil(2, true)));
        refused(2, c -> of(c.veil(-1, true)));
        refused(2, c -> of(c.veil(3, true)));
        refused(2, c -> of(c.veil(3, false)));
        refused(2, c -> of(c.veil(MIN, true)));
        refused(2, c -> of(c.veil(MAX, false)));
        refused(2, c -> of(c.veil(32, true)));
        refused(2, Bounds::full, c -> of(c.veil(6, true)));
        refused(2, Bounds::fresh, c -> of(c.veil(0, true)));
    }

    @Sentence(promise = 22, words = "A CELL of the PATCH of a COUSIN is INKED: how many are then (2; 7: a"
            + " seventh; 9: it is not of it, it is INKED).")
    void sixTattoosAndNoMore() {
        chart(SHORE);
        int[] six = {0, 1, 2, 5, 6, 12};
        for (int i = 0; i < 6; i++) {
            told(x.ink(0, six[i]), i + 1);
        }
        told(x.cousin(0, 5), set(six));
        told(x.cousin(1, 5), set(4));
        refused(7, Bounds::full, c -> c.ink(0, 6));
        refused(7, Bounds::full, c -> c.ink(0, 14));
        told(x.wash(0), 6);
        told(x.ink(0, 7), 1);
    }

    @Sentence(promise = 22, words = "9: it is not of it, it is INKED")
    void inkOnlyInThePatchAndOnlyOnce() {
        refused(9, c -> c.ink(0, 3));
        refused(9, c -> c.ink(0, 14));
        refused(9, c -> c.ink(1, 4));
        refused(9, c -> c.ink(1, 9));
        refused(9, c -> c.ink(2, 9));
        x = shore();
        told(x.ink(2, 10), 1);
        told(x.ink(2, 14), 2);
        told(x.shown(2), 0);
        chart("coast 6 by 5; cousin a at 29 wide 1 high 1;");
        told(x.ink(0, 29), 1);
    }

    @Sentence(promise = 22, words = "2 no such CELL, ROCK, COUSIN.")
    void inkOfNobodyNowhere() {
        refused(2, c -> c.ink(-1, 0));
        refused(2, c -> c.ink(3, 0));
        refused(2, c -> c.ink(MIN, 0));
        refused(2, c -> c.ink(MAX, 0));
        refused(2, c -> c.ink(0, -1));
        refused(2, c -> c.ink(0, 15));
        refused(2, c -> c.ink(0, 32));
        refused(2, c -> c.ink(0, MIN));
        refused(2, c -> c.ink(0, MAX));
        refused(2, Bounds::fresh, c -> c.ink(0, 0));
    }

    @Sentence(promise = 22, words = "STATUS of a call is the first of these that holds")
    void whereBeforeTooManyBeforeWhetherItCanBe() {
        refused(2, Bounds::full, c -> c.ink(0, 20));
        refused(2, Bounds::full, c -> c.ink(6, 0));
        refused(7, Bounds::full, c -> c.ink(0, 0));
        refused(7, Bounds::full, c -> c.ink(0, 19));
    }

    @Sentence(promise = 23, words = "No CELL of a COUSIN is INKED: how many were (2; 9: none).")
    void washOfSomeAndOfNone() {
        chart(SHORE);
        told(x.wash(1), 1);
        told(x.cousin(1, 5), 0);
        told(x.shown(1), set(7, 13));
        same("wash once more", x.wash(1), NONE);
        same("STATUS", x.status(), 9);
        refused(9, c -> c.wash(0));
        refused(9, c -> c.wash(2));
        refused(2, c -> c.wash(-1));
        refused(2, c -> c.wash(3));
        refused(2, c -> c.wash(MIN));
        refused(2, c -> c.wash(MAX));
        refused(2, Bounds::full, c -> c.wash(6));
        x = full();
        told(x.wash(0), 6);
        told(x.cousin(5, 5), 1);
        told(x.wash(5), 1);
    }

    @Sentence(promise = 24, words = "A ROCK of a DEPTH (0 to 9) more, in a CELL: its number (2; 5; 7: a"
            + " 16th; 9: there is one).")
    void fifteenRocksAndNoMore() {
        chart("coast 6 by 5;");
        for (int i = 0; i < 15; i++) {
            told(x.wreck(29 - 2 * i, i % 10), i);
            told(x.deep(29 - 2 * i), i % 10);
            told(x.rock(i, 0), 29 - 2 * i);
        }
        same("a 16th", x.wreck(0, 0), NONE);
        same("STATUS", x.status(), 7);
        told(x.many(2), 15);
        refused(7, Bounds::full, c -> c.wreck(15, 0));
        refused(7, Bounds::full, c -> c.wreck(19, 9));
        refused(9, c -> c.wreck(6, 2));
        refused(9, c -> c.wreck(13, 9));
    }

    @Sentence(promise = 24, words = "of a DEPTH (0 to 9)")
    void theDepthOfAWreck() {
        told(x.wreck(0, 0), 0);
        told(x.wreck(19, 9), 1);
        told(x.deep(0), 0);
        told(x.deep(19), 9);
        refused(5, c -> c.wreck(0, -1));
        refused(5, c -> c.wreck(0, 10));
        refused(5, c -> c.wreck(0, MIN));
        refused(5, c -> c.wreck(0, MAX));
        refused(2, c -> c.wreck(-1, 0));
        refused(2, c -> c.wreck(15, 0));
        refused(2, c -> c.wreck(MIN, 0));
        refused(2, c -> c.wreck(MAX, 0));
        refused(2, Bounds::fresh, c -> c.wreck(20, 0));
    }

    @Sentence(promise = 24, words = "STATUS of a call is the first of these that holds")
    void whereBeforeHowDeepBeforeTooMany() {
        refused(2, Bounds::full, c -> c.wreck(20, 10));
        refused(2, c -> c.wreck(15, 10));
        refused(5, Bounds::full, c -> c.wreck(0, 10));
        refused(5, c -> c.wreck(6, 10));
        refused(7, Bounds::full, c -> c.wreck(0, 9));
    }

    @Sentence(promise = 25, words = "SAIL by a set of COUSINS from a CELL to another one with a DRAFT (1 to"
            + " 10): 1 if it came IN, 0 if it STRUCK (2; 5; 8: there is no WAY).")
    void aShipOfEachDraft() {
        for (int depth = 0; depth <= 9; depth++) {
            int struck = 0;
            chart("coast 3 by 1; rock 1 deep " + depth + "; cousin a at 0 wide 3 high 1;");
            for (int draft = 1; draft <= 10; draft++) {
                told(x.sail(1, 0, 2, draft), depth < draft ? 0 : 1);
                struck += depth < draft ? 1 : 0;
                told(x.many(5), struck);
                told(x.many(6), draft - struck);
            }
        }
        refused(5, c -> c.sail(ANN, 0, 12, 0));
        refused(5, c -> c.sail(ANN, 0, 12, 11));
        refused(5, c -> c.sail(ANN, 0, 12, -1));
        refused(5, c -> c.sail(ANN, 0, 12, MIN));
        refused(5, c -> c.sail(ANN, 0, 12, MAX));
    }

    @Sentence(promise = 25, words = "STRIKES in the first CELL of it in which a ROCK has a DEPTH below"
            + " DRAFT.")
    void aShipStrikesInTheFirstAndInTheLastCell() {
        chart("coast 6 by 5; rock 0 deep 4; rock 29 deep 5; cousin a at 0 wide 6 high 5;");
        told(x.sail(1, 0, 1, 4), 1);
        told(x.sail(1, 0, 1, 5), 0);
        told(x.sail(1, 1, 0, 5), 0);
        told(x.sail(1, 0, 0, 5), 0);
        told(x.sail(1, 28, 29, 5), 1);
        told(x.sail(1, 28, 29, 6), 0);
        told(x.sail(1, 29, 29, 6), 0);
        told(x.sail(1, 1, 28, 10), 1);
        told(x.many(5), 5);
        told(x.many(6), 3);
    }

    @Sentence(promise = 25, words = "5 a number that can't be (a set with what there is none of, a number in"
            + " a TRAY, too).")
    void aShipByASetOfCousins() {
        x = shore();
        told(x.sail(7, 0, 1, 10), 1);
        refused(8, c -> c.sail(0, 0, 0, 1));
        refused(5, c -> c.sail(8, 0, 0, 1));
        refused(5, c -> c.sail(-1, 0, 0, 1));
        refused(5, c -> c.sail(ANN | 64, 0, 0, 1));
        refused(5, c -> c.sail(MIN, 0, 0, 1));
        refused(5, c -> c.sail(MAX, 0, 0, 1));
        refused(5, c -> c.sail(MIN | ANN, 0, 0, 1));
    }

    @Sentence(promise = 25, words = "2 no such CELL, ROCK, COUSIN.")
    void aShipFromNowhere() {
        refused(2, c -> c.sail(ANN, -1, 0, 1));
        refused(2, c -> c.sail(ANN, 15, 0, 1));
        refused(2, c -> c.sail(ANN, 0, -1, 1));
        refused(2, c -> c.sail(ANN, 0, 15, 1));
        refused(2, c -> c.sail(ANN, MIN, 0, 1));
        refused(2, c -> c.sail(ANN, 0, MAX, 1));
        refused(2, c -> c.sail(8, 15, 0, 0));
        refused(2, c -> c.sail(8, 0, 15, 11));
        refused(5, c -> c.sail(8, 0, 4, 1));
        refused(5, c -> c.sail(ANN, 0, 4, 11));
        refused(8, c -> c.sail(ANN, 0, 4, 1));
        refused(8, c -> c.sail(ANN, 0, 6, 1));
        refused(8, c -> c.sail(CYD, 10, 10, 1));
        x = shore();
        told(x.sail(ANN, 0, 0, 10), 1);
        told(x.sail(BEN, 14, 14, 10), 1);
        chart("coast 6 by 5; cousin a at 0 wide 6 high 5;");
        told(x.sail(1, 0, 29, 10), 1);
        told(x.sail(1, 29, 0, 10), 1);
    }

    @Sentence(promise = 26, words = "A COUSIN more, bare, pale, whose PATCH begins in a CELL, so wide and"
            + " high: the number (2; 5: it would go beyond the COAST, too; 7: a seventh).")
    void sixCousinsAndNoMore() {
        for (int i = 0; i < 6; i++) {
            told(x.born(i % 3, 1 + i % 3, 1 + i % 4), i);
            int[] due = {i % 3, 1 + i % 3, 1 + i % 4, 0, 0, 0};
            for (int what = 0; what < due.length; what++) {
                told(x.cousin(i, what), due[what]);
            }
        }
        same("a seventh", x.born(0, 1, 1), NONE);
        same("STATUS", x.status(), 7);
        refused(7, Bounds::full, c -> c.born(0, 1, 1));
        refused(7, Bounds::full, c -> c.born(19, 1, 1));
    }

    @Sentence(promise = 26, words = "A COUSIN more, bare, pale")
    void whoIsBornIsNotLikeWhoWasThere() {
        told(x.mark(), 1);
        told(x.born(0, 5, 4), 0);
        told(x.sun(0, 9), 9);
        told(x.ink(0, 3), 1);
        told(x.veil(0, true));
        told(x.back(), 0);
        told(x.born(0, 2, 1), 0);
        told(x.cousin(0, 3), 0);
        told(x.cousin(0, 4), 0);
        told(x.cousin(0, 5), 0);
        told(x.cousin(0, 6), 3);
        told(x.many(7), 0);
    }

    @Sentence(promise = 26, words = "5: it would go beyond the COAST, too")
    void thePatchOfWhoIsBorn() {
        told(x.born(0, 5, 4), 0);
        told(x.cousin(0, 6), (1 << 20) - 1);
        told(x.born(19, 1, 1), 1);
        told(x.born(8, 2, 3), 2);
        told(x.cousin(2, 6), set(8, 9, 13, 14, 18, 19));
        refused(5, Bounds::fresh, c -> c.born(8, 3, 3));
        refused(5, Bounds::fresh, c -> c.born(8, 2, 4));
        refused(5, Bounds::fresh, c -> c.born(0, 6, 1));
        refused(5, Bounds::fresh, c -> c.born(0, 1, 5));
        refused(5, Bounds::fresh, c -> c.born(0, 0, 1));
        refused(5, Bounds::fresh, c -> c.born(0, 1, 0));
        refused(5, Bounds::fresh, c -> c.born(0, -1, 1));
        refused(5, Bounds::fresh, c -> c.born(0, 1, -1));
        refused(5, Bounds::fresh, c -> c.born(1, MAX, 1));
        refused(5, Bounds::fresh, c -> c.born(5, 1, MAX));
        refused(5, Bounds::fresh, c -> c.born(19, MIN, MIN));
        refused(5, c -> c.born(14, 2, 1));
        refused(5, c -> c.born(14, 1, 2));
        refused(2, c -> c.born(15, 1, 1));
        refused(2, c -> c.born(-1, 1, 1));
        refused(2, c -> c.born(MIN, 1, 1));
        refused(2, c -> c.born(MAX, 1, 1));
    }

    @Sentence(promise = 26, words = "STATUS of a call is the first of these that holds")
    void whereBeforeHowLargeBeforeTooMany() {
        refused(2, Bounds::full, c -> c.born(20, 0, 0));
        refused(2, c -> c.born(-1, 9, 9));
        refused(5, Bounds::full, c -> c.born(19, 2, 1));
        refused(5, Bounds::full, c -> c.born(0, 0, 1));
    }

    @Sentence(promise = 27, words = "ODDS from now on (0 to 16) (5).")
    void oddsOfZeroToSixteen() {
        for (int odds = 0; odds <= 16; odds++) {
            told(x.rule(odds));
            told(x.many(4), odds);
        }
        told(x.rule(16));
        refused(5, c -> of(c.rule(-1)));
        refused(5, c -> of(c.rule(17)));
        refused(5, c -> of(c.rule(MIN)));
        refused(5, c -> of(c.rule(MAX)));
    }
}
