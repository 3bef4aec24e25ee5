/** Promises 5 to 8 and 18: TRAYS. */
final class BoundsOfTrays extends Bounds {
    private void row(int tray, int sort, long... numbers) {
        told(x.tray(tray, sort, numbers.length));
        for (int i = 0; i < numbers.length; i++) {
            told(x.write(tray, i, numbers[i]));
        }
    }

    private void holds(int tray, long... numbers) {
        for (int i = 0; i < numbers.length; i++) {
            same("place " + i, x.read(tray, i), numbers[i]);
        }
        same("behind the last place", x.read(tray, numbers.length), NONE);
        same("STATUS", x.status(), 4);
    }

    @Sentence(promise = 5, words = "TRAYS, 0 to 3, are MISSING at first")
    void traysAreNumberedFromZeroToThree() {
        told(x.tray(0, 0, 1));
        told(x.tray(3, 0, 1));
        refused(1, c -> of(c.tray(-1, 0, 1)));
        refused(1, c -> of(c.tray(4, 0, 1)));
        refused(1, c -> of(c.tray(MIN, 0, 1)));
        refused(1, c -> of(c.tray(MAX, 0, 1)));
        told(x.read(0, 0), 0);
        told(x.read(3, 0), 0);
        same("tray 1", x.read(1, 0), NONE);
        same("STATUS", x.status(), 3);
        same("tray 2", x.read(2, 0), NONE);
        same("STATUS", x.status(), 3);
    }

    @Sentence(promise = 5, words = "1 no such TRAY (or sort).")
    void sortsAreNumberedFromZeroToThree() {
        for (int sort = 0; sort < 4; sort++) {
            told(x.tray(2, sort, 1));
        }
        refused(1, c -> of(c.tray(2, -1, 1)));
        refused(1, c -> of(c.tray(2, 4, 1)));
        refused(1, c -> of(c.tray(0, MIN, 1)));
        refused(1, c -> of(c.tray(0, MAX, 1)));
    }

    @Sentence(promise = 5, words = "A TRAY is a row of so many numbers (at most 60; 5), all 0 (1; 5; 6).")
    void atMostSixtyNumbers() {
        told(x.tray(0, 0, 60));
        told(x.read(0, 59), 0);
        refused(5, c -> of(c.tray(0, 0, 61)));
        refused(5, c -> of(c.tray(2, 0, 61)));
        refused(5, c -> of(c.tray(0, 0, MAX)));
    }

    @Sentence(promise = 5, words = "6 below 0 (a TRAY's length).")
    void aTrayMayBeEmpty() {
        told(x.tray(0, 0, 0));
        holds(0);
        refused(6, c -> of(c.tray(0, 0, -1)));
        refused(6, c -> of(c.tray(2, 3, MIN)));
    }

    @Sentence(promise = 5, words = "all 0")
    void aTrayMadeAgainIsAllZero() {
        long[] numbers = new long[60];
        java.util.Arrays.fill(numbers, 7);
        row(1, 0, numbers);
        told(x.tray(1, 0, 60));
        holds(1, new long[60]);
        row(1, 0, numbers);
        told(x.tray(1, 2, 1));
        told(x.tray(1, 2, 60));
        holds(1, new long[60]);
        row(1, 0, 1, 2, 3);
        told(x.tray(1, 0, 0));
        told(x.tray(1, 0, 3));
        holds(1, 0, 0, 0);
    }

    @Sentence(promise = 5, words = "STATUS of a call is the first of these that holds")
    void noSuchTrayComesBeforeItsLength() {
        refused(1, c -> of(c.tray(4, 0, 61)));
        refused(1, c -> of(c.tray(0, 4, 61)));
        refused(1, c -> of(c.tray(-1, 0, -1)));
        refused(1, c -> of(c.tray(0, -1, -1)));
    }

    @Sentence(promise = 6, words = "A number comes to a place of a TRAY (1; 3; 4).")
    void theFirstAndTheLastPlaceAreWritten() {
        told(x.tray(2, 1, 60));
        told(x.write(2, 0, 5));
        told(x.write(2, 59, 6));
        told(x.read(2, 0), 5);
        told(x.read(2, 1), 0);
        told(x.read(2, 58), 0);
        told(x.read(2, 59), 6);
        refused(1, c -> of(c.write(-1, 0, 1)));
        refused(1, c -> of(c.write(4, 0, 1)));
        refused(3, c -> of(c.write(2, 0, 1)));
        refused(4, c -> of(c.write(0, -1, 1)));
        refused(4, c -> of(c.write(0, 3, 1)));
        refused(4, c -> of(c.write(1, 60, 1)));
        refused(4, c -> of(c.write(1, MAX, 1)));
        refused(4, c -> of(c.write(1, MIN, 1)));
    }

    @Sentence(promise = 6, words = "3 the TRAY is MISSING. 4 a place that the TRAY has not")
    void aMissingTrayComesBeforeItsPlace() {
        refused(1, c -> of(c.write(4, 60, 1)));
        refused(3, c -> of(c.write(2, -1, 1)));
        refused(3, c -> of(c.write(2, 60, 1)));
        told(x.tray(0, 0, 0));
        same("an empty tray has no place", of(x.write(0, 0, 1)), NONE);
        same("STATUS", x.status(), 4);
    }

    private void cut(int sort, long most) {
        long least = -most - 1;
        row(sort, sort, most, least, most + 1, least - 1, -1, 2 * most + 1, 2 * most + 2, 0);
        holds(sort, most, least, least, most, -1, -1, 0, 0);
    }

    @Sentence(promise = 6, words = "rows of numbers of 8 bits (sort 0), 16 (1), 32 (2) or 64 (3),"
            + " with sign; what is written is cut to these")
    void whatIsWrittenWrapsAround() {
        cut(0, Byte.MAX_VALUE);
        cut(1, Short.MAX_VALUE);
        cut(2, Integer.MAX_VALUE);
        cut(3, Long.MAX_VALUE);
        row(0, 0, Long.MIN_VALUE, Long.MAX_VALUE, 0x1234567890ABCD80L, 0x123456789ABCDE7FL);
        holds(0, 0, -1, -128, 127);
        row(0, 1, Long.MIN_VALUE, Long.MAX_VALUE, 0x1234567890AB8000L, 0x123456789ABC7FFFL);
        holds(0, 0, -1, -32768, 32767);
        row(0, 2, Long.MIN_VALUE, Long.MAX_VALUE, 0x1234567880000000L, 0x123456787FFFFFFFL);
        holds(0, 0, -1, MIN, MAX);
    }

    @Sentence(promise = 7, words = "The number in a place of a TRAY; STATUS tells NONE from -1 (1; 3; 4).")
    void minusOneIsNoRefusal() {
        row(0, 3, 8, -1);
        told(x.read(0, 1), -1);
        told(x.read(0, 0), 8);
        refused(1, c -> c.read(-1, 0));
        refused(1, c -> c.read(4, 0));
        refused(3, c -> c.read(2, 0));
        refused(4, c -> c.read(0, 3));
        refused(4, c -> c.read(0, -1));
        refused(4, c -> c.read(1, 60));
        refused(4, c -> c.read(1, MIN));
        refused(4, c -> c.read(1, MAX));
    }

    @Sentence(promise = 7, words = "3 the TRAY is MISSING. 4 a place that the TRAY has not")
    void readAsksForTheTrayFirst() {
        refused(1, c -> c.read(4, -1));
        refused(3, c -> c.read(2, -1));
        told(x.tray(0, 0, 0));
        same("an empty tray has no place", x.read(0, 0), NONE);
        same("STATUS", x.status(), 4);
    }

    @Sentence(promise = 8, words = "So many numbers from place i on of a TRAY come to place j on of"
            + " another one")
    void aWholeTrayIsPoured() {
        row(0, 1, 1, 2, 3);
        row(1, 1, 7, 7, 7);
        told(x.pour(0, 0, 1, 0, 3));
        holds(1, 1, 2, 3);
        holds(0, 1, 2, 3);
        row(1, 1, 7, 7, 7);
        told(x.pour(0, 2, 1, 0, 1));
        holds(1, 3, 7, 7);
        told(x.pour(0, 0, 1, 2, 1));
        holds(1, 3, 7, 1);
        told(x.tray(2, 3, 60));
        told(x.tray(3, 3, 60));
        told(x.write(2, 0, Long.MIN_VALUE));
        told(x.write(2, 59, Long.MAX_VALUE));
        told(x.pour(2, 0, 3, 0, 60));
        told(x.read(3, 0), Long.MIN_VALUE);
        told(x.read(3, 59), Long.MAX_VALUE);
    }

    @Sentence(promise = 8, words = "on of a TRAY come to place j on of another one, or the same")
    void fromEachTrayToEach() {
        for (int tray = 0; tray < 4; tray++) {
            for (int to = 0; to < 4; to++) {
                for (int i = 0; i < 4; i++) {
                    row(i, 2, 10 * i, 10 * i + 1);
                }
                told(x.pour(tray, 1, to, 0, 1));
                for (int i = 0; i < 4; i++) {
                    holds(i, i == to ? 10 * tray + 1 : 10 * i, 10 * i + 1);
                }
                x = new FreckleChart();
            }
        }
    }

    @Sentence(promise = 8, words = "or the same, as they were")
    void numbersAreAsTheyWere() {
        row(0, 0, 1, 2, 3, 4, 5);
        told(x.pour(0, 0, 0, 1, 4));
        holds(0, 1, 1, 2, 3, 4);
        told(x.pour(0, 1, 0, 0, 4));
        holds(0, 1, 2, 3, 4, 4);
        told(x.pour(0, 0, 0, 0, 5));
        holds(0, 1, 2, 3, 4, 4);
    }

    private static FreckleChart pourable() {
        FreckleChart c = shore();
        c.tray(2, 1, 5);
        c.write(2, 4, 44);
        return c;
    }

    @Sentence(promise = 8, words = "4 a place that the TRAY has not, or too few numbers.")
    void bothEndsOfWhatIsPoured() {
        x = pourable();
        told(x.pour(0, 0, 2, 2, 3));
        told(x.pour(2, 2, 0, 0, 3));
        refused(4, Bounds::shore, c -> of(c.pour(0, 0, 3, 0, 3)));
        refused(4, BoundsOfTrays::pourable, c -> of(c.pour(0, 1, 2, 0, 3)));
        refused(4, BoundsOfTrays::pourable, c -> of(c.pour(0, 0, 2, 3, 3)));
        refused(4, BoundsOfTrays::pourable, c -> of(c.pour(0, 0, 2, 0, 4)));
        refused(4, BoundsOfTrays::pourable, c -> of(c.pour(2, 0, 0, 0, 4)));
        refused(4, BoundsOfTrays::pourable, c -> of(c.pour(0, -1, 2, 0, 1)));
        refused(4, BoundsOfTrays::pourable, c -> of(c.pour(0, 0, 2, -1, 1)));
        refused(4, BoundsOfTrays::pourable, c -> of(c.pour(0, 3, 2, 0, 1)));
        refused(4, BoundsOfTrays::pourable, c -> of(c.pour(0, 0, 2, 5, 1)));
        refused(4, BoundsOfTrays::pourable, c -> of(c.pour(0, MAX, 2, 0, 1)));
        refused(4, BoundsOfTrays::pourable, c -> of(c.pour(0, 0, 2, MAX, 1)));
        refused(4, BoundsOfTrays::pourable, c -> of(c.pour(0, 1, 2, 1, MAX)));
        refused(4, BoundsOfTrays::pourable, c -> of(c.pour(0, MIN, 2, 0, MAX)));
        refused(4, BoundsOfTrays::pourable, c -> of(c.pour(0, 0, 2, MIN, MAX)));
    }

    @Sentence(promise = 8, words = "So many numbers from place i on")
    void nothingIsPoured() {
        row(0, 1, 1, 2, 3);
        told(x.tray(1, 1, 0));
        told(x.pour(0, 0, 1, 0, 0));
        told(x.pour(1, 0, 0, 0, 0));
        told(x.pour(1, 0, 1, 0, 0));
        told(x.pour(0, 1, 0, 2, 0));
        holds(0, 1, 2, 3);
        holds(1);
        same("one of none", of(x.pour(1, 0, 0, 0, 1)), NONE);
        same("STATUS", x.status(), 4);
        same("one to none", of(x.pour(0, 0, 1, 0, 1)), NONE);
        same("STATUS", x.status(), 4);
    }

    @Sentence(promise = 8, words = "1, 3 (either), 11, 6, 4, asked in this order")
    void theOrderOfWhatIsAsked() {
        refused(1, c -> of(c.pour(-1, 0, 0, 0, 1)));
        refused(1, c -> of(c.pour(0, 0, -1, 0, 1)));
        refused(1, c -> of(c.pour(4, 0, 0, 0, 1)));
        refused(1, c -> of(c.pour(0, 0, 4, 0, 1)));
        refused(1, c -> of(c.pour(2, -1, 4, -1, -1)));
        refused(1, c -> of(c.pour(4, -1, 2, -1, -1)));
        refused(3, c -> of(c.pour(2, 0, 0, 0, 1)));
        refused(3, c -> of(c.pour(0, 0, 2, 0, 1)));
        refused(3, c -> of(c.pour(2, 0, 2, 0, 0)));
        refused(3, c -> of(c.pour(0, -1, 2, -1, -1)));
        refused(11, c -> of(c.pour(0, 0, 1, 0, 1)));
        refused(11, c -> of(c.pour(1, 0, 0, 0, 0)));
        refused(11, c -> of(c.pour(0, -1, 1, -1, -1)));
        refused(11, c -> of(c.pour(0, 9, 1, 99, 99)));
        refused(6, c -> of(c.pour(0, 0, 3, 0, -1)));
        refused(6, c -> of(c.pour(0, 0, 0, 0, MIN)));
        refused(6, c -> of(c.pour(0, -1, 3, 99, -1)));
        refused(4, c -> of(c.pour(0, 0, 3, 99, 0)));
        refused(4, c -> of(c.pour(0, 99, 3, 0, 0)));
    }

    @Sentence(promise = 8, words = "11 TRAYS of unlike sorts.")
    void eachTwoSortsAreUnlike() {
        for (int sort = 0; sort < 4; sort++) {
            told(x.tray(0, sort, 1));
            for (int other = 0; other < 4; other++) {
                told(x.tray(1, other, 1));
                same("pour", of(x.pour(0, 0, 1, 0, 1)), sort == other ? 1 : NONE);
                same("STATUS", x.status(), sort == other ? 0 : 11);
            }
        }
    }

    @Sentence(promise = 18, words = "TAN of all COUSINS comes to a TRAY, by numbers: how many (1; 3; 4).")
    void tanOfAllInATrayJustLongEnough() {
        chart(SHORE);
        row(0, 0, 50, 50, 50);
        told(x.copyTan(0), 3);
        holds(0, 3, 6, 0);
        row(0, 3, 50, 50, 50, 50);
        told(x.copyTan(0), 3);
        holds(0, 3, 6, 0, 50);
        told(x.born(0, 1, 1), 3);
        told(x.sun(0, 9), 9);
        told(x.copyTan(0), 4);
        holds(0, 9, 6, 0, 0);
        refused(1, c -> c.copyTan(-1));
        refused(1, c -> c.copyTan(4));
        refused(3, c -> c.copyTan(2));
        refused(4, c -> c.copyTan(3));
        refused(4, () -> {
            FreckleChart c = shore();
            c.tray(0, 0, 0);
            return c;
        }, c -> c.copyTan(0));
    }

    @Sentence(promise = 18, words = "or too few numbers.")
    void asManyNumbersAsCousins() {
        for (int i = 0; i < 6; i++) {
            told(x.tray(0, 0, i));
            told(x.copyTan(0), i);
            told(x.born(0, 1, 1), i);
            same("one too few", x.copyTan(0), NONE);
            same("STATUS", x.status(), 4);
        }
        told(x.tray(0, 0, 6));
        told(x.copyTan(0), 6);
        chart("rock 0 deep 1; rock 1 deep 1; cousin a at 0 wide 1 high 1 tan 7;");
        row(0, 0, 50);
        told(x.copyTan(0), 1);
        holds(0, 7);
    }

    @Sentence(promise = 18, words = "TAN of all COUSINS comes to a TRAY, by numbers: how many (1; 3; 4).")
    void tanOfNobodyInAnEmptyTray() {
        refused(3, Bounds::fresh, c -> c.copyTan(3));
        told(x.tray(3, 1, 0));
        told(x.copyTan(3), 0);
        x = full();
        told(x.copyTan(3), 6);
        told(x.read(3, 0), 9);
        told(x.read(3, 2), 9);
        told(x.read(3, 3), 0);
    }
}
