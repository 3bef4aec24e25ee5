/** Promises 9 to 12: the tape, how much of it is a text, what fault() tells. */
final class BoundsOfTapes extends Bounds {
    private static final int BLANKS = 0x20202020;

    private static String blanks(int many) {
        return " ".repeat(many);
    }

    private void feedIs(int due) {
        same("feed", x.feed(BLANKS, BLANKS, BLANKS, BLANKS, BLANKS), due);
    }

    @Sentence(promise = 9, words = "how many it has; NONE if there would be more than 900.")
    void nineHundredBytesAndNoMore() {
        for (int i = 1; i <= 45; i++) {
            feedIs(20 * i);
        }
        feedIs(NONE);
        feedIs(NONE);
        same("status()", x.status(), 0);
        told(x.coast(900), 0);
        feedIs(20);
        changesNothing(Bounds::full, c -> c.feed(0, 0, 0, 0, 0));
    }

    @Sentence(promise = 9, words = "Twenty bytes come behind those on the tape, the highest of each"
            + " int first")
    void theHighestByteComesFirst() {
        // odds 3;rock 1 deep 9; and blanks.
        same("feed", x.feed(0x6F646473, 0x20333B72, 0x6F636B20, 0x31206465, 0x65702039), 20);
        same("feed", x.feed(0x3B202020, BLANKS, BLANKS, BLANKS, BLANKS), 40);
        told(x.coast(40), 0);
        told(x.many(4), 3);
        told(x.deep(1), 9);
    }

    @Sentence(promise = 9, words = "Twenty bytes come behind those on the tape")
    void eachOfTheTwentyPlaces() {
        for (int place = 0; place < 20; place++) {
            int[] five = {BLANKS, BLANKS, BLANKS, BLANKS, BLANKS};
            int shift = 24 - 8 * (place % 4);
            // A byte of 255, that begins no TOKEN.
            five[place / 4] |= 255 << shift;
            x = new FreckleChart();
            feedIs(20);
            same("feed", x.feed(five[0], five[1], five[2], five[3], five[4]), 40);
            same("coast", x.coast(40), NONE);
            same("fault(0)", x.fault(0), 1);
            same("fault(1)", x.fault(1), 20 + place);
        }
    }

    @Sentence(promise = 10, words = "The first n bytes of the tape (which is empty then, but for 5)"
            + " are the COAST")
    void noMoreBytesThanTheTapeHas() {
        refused(5, c -> c.coast(-1));
        refused(5, c -> c.coast(MIN));
        refused(5, c -> c.coast(41));
        refused(5, c -> c.coast(MAX));
        refused(5, Bounds::full, c -> c.coast(901));
        refused(5, Bounds::fresh, c -> c.coast(1));
        Texts.feed(x, "odds 1; odds 2;");
        told(x.coast(7), 0);
        told(x.many(4), 1);
        Texts.feed(x, "odds 3;");
        told(x.coast(20), 0);
        told(x.many(4), 3);
        Texts.feed(x, "odds 4;");
        told(x.coast(0), 0);
        told(x.many(4), 8);
    }

    @Sentence(promise = 10, words = "(which is empty then, but for 5)")
    void theTapeBehindACoast() {
        Texts.feed(x, "odds 1; odds 2;");
        same("coast", x.coast(21), NONE);
        same("STATUS", x.status(), 5);
        feedIs(40);
        told(x.coast(7), 0);
        feedIs(20);
        told(x.coast(0), 0);
        feedIs(20);
        Texts.feed(x, "odds 17;");
        same("coast", x.coast(28), NONE);
        same("STATUS", x.status(), 10);
        feedIs(20);
        told(x.coast(20), 0);
        same("coast", x.coast(1), NONE);
        same("STATUS", x.status(), 5);
        // What was on the tape ahead is not read again.
        Texts.feed(x, "odds 5; odds 6;");
        told(x.coast(0), 0);
        feedIs(20);
        told(x.coast(20), 0);
        told(x.many(4), 8);
    }

    @Sentence(promise = 10, words = "how many COUSINS (5; 10: the old one stays)")
    void theOldCoastStays() {
        coastFault(4, "coast 6 by 5; odds 1; rock 1 deep 1; cousin cyd at 29 wide 1 high |2;");
        coastFault(2, "coast 6 by 5; odds 1; rock 1 deep 1; cousin cyd at 0 wide 1 high 1; |;");
        coastFault(2, "coast 1 by 1|");
    }

    @Sentence(promise = 10, words = "A COAST is a TEXT of at most 900 bytes.")
    void aTextOfNineHundredBytes() {
        Texts.feed(x, blanks(893) + "odds 7;");
        told(x.coast(900), 0);
        told(x.many(4), 7);
        Texts.feed(x, blanks(893) + "odds 6;");
        same("coast", x.coast(899), NONE);
        same("fault(0)", x.fault(0), 2);
        same("fault(1)", x.fault(1), 899);
        Texts.feed(x, blanks(899) + "A");
        same("coast", x.coast(900), NONE);
        same("fault(0)", x.fault(0), 1);
        same("fault(1)", x.fault(1), 899);
        Texts.feed(x, blanks(896) + "odds");
        same("coast", x.coast(900), NONE);
        same("fault(0)", x.fault(0), 2);
        same("fault(1)", x.fault(1), 900);
        told(x.many(4), 7);
        Texts.feed(x, blanks(900));
        told(x.coast(900), 0);
        told(x.many(4), 8);
    }

    @Sentence(promise = 10, words = "The first n bytes")
    void aTokenIsCutWhereTheTextEnds() {
        Texts.feed(x, "odds 16;");
        same("coast", x.coast(7), NONE);
        same("fault(0)", x.fault(0), 2);
        same("fault(1)", x.fault(1), 7);
        Texts.feed(x, "odds 1;16;");
        told(x.coast(7), 0);
        Texts.feed(x, "cousin abcdefghi at 0 wide 1 high 1;");
        same("coast", x.coast(15), NONE);
        same("fault(1)", x.fault(1), 15);
        // Of 12345 only four digits belong to the text.
        Texts.feed(x, "odds 00012345");
        same("coast", x.coast(9), NONE);
        same("fault(0)", x.fault(0), 2);
        same("fault(1)", x.fault(1), 9);
    }

    private static FreckleChart longTape() {
        FreckleChart c = shore();
        c.coast(0);
        Texts.feed(c, "any;" + blanks(297));
        return c;
    }

    @Sentence(promise = 11, words = "how many STEPS (5: above 300, too; 10)")
    void noMoreThanThreeHundredBytes() {
        refused(5, c -> c.years(-1));
        refused(5, c -> c.years(MIN));
        refused(5, c -> c.years(41));
        refused(5, c -> c.years(MAX));
        refused(5, BoundsOfTapes::longTape, c -> c.years(301));
        refused(5, BoundsOfTapes::longTape, c -> c.years(320));
        refused(5, BoundsOfTapes::longTape, c -> c.years(321));
        refused(5, Bounds::full, c -> c.years(900));
        refused(5, Bounds::fresh, c -> c.years(1));
        x = longTape();
        told(x.years(300), 1);
        x = longTape();
        told(x.years(4), 1);
        x = longTape();
        told(x.years(0), 0);
    }

    @Sentence(promise = 11, words = "YEARS are a TEXT of at most 300 bytes")
    void aTextOfThreeHundredBytes() {
        Texts.feed(x, blanks(296) + "any;");
        told(x.years(300), 1);
        Texts.feed(x, blanks(296) + "any;");
        same("years", x.years(299), NONE);
        same("fault(0)", x.fault(0), 2);
        same("fault(1)", x.fault(1), 299);
        Texts.feed(x, blanks(299) + "A");
        same("years", x.years(300), NONE);
        same("fault(0)", x.fault(0), 1);
        same("fault(1)", x.fault(1), 299);
        Texts.feed(x, blanks(295) + "any;A");
        told(x.years(299), 1);
        Texts.feed(x, blanks(300));
        told(x.years(300), 0);
    }

    @Sentence(promise = 11, words = "Likewise the YEARS")
    void theTapeBehindYears() {
        x = pair();
        Texts.feed(x, "rain 1;any; rain 10;");
        same("years", x.years(21), NONE);
        same("STATUS", x.status(), 5);
        feedIs(40);
        told(x.years(11), 2);
        feedIs(20);
        told(x.years(20), 0);
        Texts.feed(x, "rain 10;");
        same("years", x.years(8), NONE);
        same("STATUS", x.status(), 10);
        feedIs(20);
        told(x.years(0), 0);
        feedIs(20);
    }

    @Sentence(promise = 11, words = "10 a FAULT.")
    void theOldYearsStay() {
        yearsFault(2, "rain 1; rain 2; any|");
        yearsFault(4, "veil ann; loop 3; rain |10; end;");
        yearsFault(2, "loop 2; any; |");
    }

    @Sentence(promise = 11, words = "how many STEPS")
    void newYearsAreInPlaceOfTheOld() {
        x = pair();
        told(x.live(0), 2);
        same("years", Texts.years(x, "rain 1;"), 1);
        told(x.live(0), 1);
        told(x.cousin(0, 3), 2);
        same("years", Texts.years(x, "loop 2; rain 1; end;"), 2);
        told(x.live(0), 3);
        told(x.cousin(0, 3), 0);
    }

    private void faultIs(int fault, int place) {
        same("fault(0)", x.fault(0), fault);
        same("fault(1)", x.fault(1), place);
        same("fault(0) once more", x.fault(0), fault);
    }

    @Sentence(promise = 12, words = "NONE for others, and ahead of any.")
    void faultAheadOfAnyAndOfOthers() {
        faultIs(NONE, NONE);
        same("coast", x.coast(1), NONE);
        same("years", x.years(-1), NONE);
        faultIs(NONE, NONE);
        same("coast", Texts.coast(x, " odds 17;"), NONE);
        faultIs(4, 6);
        for (int what : new int[] {-1, 2, 3, MIN, MAX}) {
            same("fault of another", x.fault(what), NONE);
        }
        told(x.coast(0), 0);
        faultIs(0, NONE);
        for (int what : new int[] {-1, 2, MIN, MAX}) {
            same("fault of another", x.fault(what), NONE);
        }
    }

    @Sentence(promise = 12, words = "Of the latest of these with STATUS 0 or 10, what 0: the FAULT (0"
            + " without one), 1: its place (NONE without).")
    void faultOfTheLatestText() {
        same("coast", Texts.coast(x, "A"), NONE);
        faultIs(1, 0);
        same("years", x.years(1), NONE);
        same("STATUS", x.status(), 5);
        faultIs(1, 0);
        same("years", Texts.years(x, "any; any"), NONE);
        faultIs(2, 8);
        same("coast", x.coast(-1), NONE);
        faultIs(2, 8);
        told(x.coast(0), 0);
        faultIs(0, NONE);
        same("years", Texts.years(x, " rain 0;"), NONE);
        faultIs(4, 6);
        told(x.years(0), 0);
        faultIs(0, NONE);
        same("coast", Texts.coast(x, "rock 1 deep 1;rock 1 deep 1;"), NONE);
        faultIs(5, 19);
        told(x.mark(), 1);
        told(x.rule(1));
        told(x.back(), 0);
        faultIs(5, 19);
    }
}
