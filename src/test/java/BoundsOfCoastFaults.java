/** Promise 10: the FAULTS of a coast, each at its place, and which comes first. */
final class BoundsOfCoastFaults extends Bounds {
    private static final String X = "cousin x at 0 wide 1 high 1";
    private static final String SIX = "cousin a at 0 wide 1 high 1;cousin b at 0 wide 1 high 1;"
            + "cousin c at 0 wide 1 high 1;cousin d at 0 wide 1 high 1;"
            + "cousin e at 0 wide 1 high 1;cousin f at 0 wide 1 high 1;";
    private static final String ROCKS = "rock 0 deep 1;rock 1 deep 1;rock 2 deep 1;rock 3 deep 1;"
            + "rock 4 deep 1;rock 5 deep 1;rock 6 deep 1;rock 7 deep 1;rock 8 deep 1;rock 9 deep 1;"
            + "rock 10 deep 1;rock 11 deep 1;rock 12 deep 1;rock 13 deep 1;rock 14 deep 1;";

    @Sentence(promise = 10, words = "1 no TOKEN begins so (a NUMBER of 5 digits and more: at its first).")
    void faultOne() {
        coastFault(1, "|A");
        coastFault(1, " \n|~");
        coastFault(1, "|\t");
        coastFault(1, "|\r\n");
        coastFault(1, "|\u0000");
        coastFault(1, "|\u007F");
        coastFault(1, "|\u0080");
        coastFault(1, "|\u00FF");
        coastFault(1, "odds 1;|A");
        coastFault(1, "odds |A1;");
        coastFault(1, "odds|\u00E9 1;");
        coastFault(1, "|12345");
        coastFault(1, "odds |12345");
        coastFault(1, "odds |123456789012345678901234567890;");
        coastFault(1, "odds 1 |00001;");
        coastFault(1, X + " inked |00000;");
        coastFault(1, X + " inked 0 |00000;");
        coastFault(1, "cousin |00000");
    }

    @Sentence(promise = 10, words = "2 it can't stand there (the end: the text's length;")
    void theEndCannotStandThere() {
        String[] parts = {"coast 5 by 4;", "odds 1;", "rock 0 deep 1;",
            "cousin x at 0 wide 1 high 1 tan 1 veiled inked 0;"};
        for (String part : parts) {
            for (int length = 1; length < part.length(); length++) {
                String text = part.substring(0, length);
                // Behind each whole token: half a word would be a fault itself.
                if (part.charAt(length) == ' ' || part.charAt(length) == ';') {
                    coastFault(2, text + "|");
                    coastFault(2, text + " \n|");
                    coastFault(2, (part.startsWith("odds") ? "" : "odds 3;") + text + "  |");
                }
            }
        }
    }

    @Sentence(promise = 10, words = "2 it can't stand there")
    void tokensThatCannotStandThere() {
        coastFault(2, "|by 1;");
        coastFault(2, "|1;");
        coastFault(2, "|x;");
        coastFault(2, "|sun ann 1;");
        coastFault(2, "|rocky 1;");
        coastFault(2, "|roc 1;");
        coastFault(2, "coast |by 1;");
        coastFault(2, "coast |; by 1;");
        coastFault(2, "coast 5 |5;");
        coastFault(2, "coast 5 |deep 5;");
        coastFault(2, "coast 5 by |by 5;");
        coastFault(2, "coast 5 by 5 |5;");
        coastFault(2, "coast 5 by 5 |odds 1;");
        coastFault(2, "odds |odds;");
        coastFault(2, "odds 1 |1;");
        coastFault(2, "rock |deep 1;");
        coastFault(2, "rock 1 |1;");
        coastFault(2, "rock 1 |by 1;");
        coastFault(2, "rock 1 deep |;");
        coastFault(2, "rock 1 deep 1 |deep 1;");
        coastFault(2, "cousin x |0 wide 1 high 1;");
        coastFault(2, "cousin x |x at 0 wide 1 high 1;");
        coastFault(2, "cousin x at |wide 1 high 1;");
        coastFault(2, "cousin x at 0 |high 1 wide 1;");
        coastFault(2, "cousin x at 0 wide |high 1;");
        coastFault(2, "cousin x at 0 wide 1 |;");
        coastFault(2, "cousin x at 0 wide 1 |1;");
        coastFault(2, "cousin x at 0 wide 1 high |;");
        coastFault(2, X + "|> tan 1;");
        coastFault(2, X + " |x;");
        coastFault(2, X + " tan |tan;");
        coastFault(2, X + " inked |x;");
        coastFault(2, X + " inked 0|=");
    }

    @Sentence(promise = 10, words = "a WORD of 9 letters and more where a NAME must stand).")
    void aWordOfNineLetters() {
        coastFault(2, "cousin |abcdefghi at 0 wide 1 high 1;");
        coastFault(2, "cousin |abcdefghia at 0 wide 1 high 1;");
        coastFault(2, "cousin |coastcoastcoast at 0 wide 1 high 1;");
        // Neither is it the one that it begins with, nor the one that it ends with.
        coastFault(2, "cousin abcdefgh at 0 wide 1 high 1; cousin |abcdefghi at 0 wide 1 high 1;");
        coastFault(2, "cousin bcdefghi at 0 wide 1 high 1; cousin |abcdefghi at 0 wide 1 high 1;");
        coastFault(2, "|abcdefghi");
        coastFault(2, "|rockrockrock 1 deep 1;");
        coastFault(2, "cousin x |atatatatatat 0 wide 1 high 1;");
        coastFault(2, X + " |veiledveiled;");
    }

    @Sentence(promise = 10, words = "3 a new NAME that is taken.")
    void aNameThatIsTaken() {
        coastFault(3, "cousin x at 0 wide 1 high 1; cousin |x at 1 wide 1 high 1;");
        coastFault(3, "cousin x at 0 wide 1 high 1; cousin y at 1 wide 1 high 1; cousin |x A");
        coastFault(3, "cousin abcdefgh at 0 wide 1 high 1; cousin |abcdefgh at 1 wide 1 high 1;");
        coastFault(3, SIX.replace("cousin f", "cousin |a"));
        coastFault(3, SIX.replace("cousin f", "cousin |e"));
        // Of a coast ahead no name is taken.
        x = pair();
        told(Texts.coast(x, "cousin ann at 0 wide 1 high 1;"), 1);
        told(Texts.coast(x, "cousin ann at 0 wide 1 high 1;"), 1);
        x.rule(0);
        same("a coast with a fault behind its name", Texts.coast(x, "cousin zoe at 99"), NONE);
        told(Texts.coast(x, "cousin zoe at 0 wide 1 high 1;"), 1);
        coast("cousin x at 0 wide 1 high 1; cousin xx at 0 wide 1 high 1;", 2);
    }

    @Sentence(promise = 10, words = "4 a NUMBER that can't be (no such CELL; so wide, high that the PATCH"
            + " would go beyond the COAST; an INKED CELL that is not of the PATCH, too).")
    void numbersThatCannotBe() {
        coastFault(4, "coast |0 by 0;");
        coastFault(4, "coast |7 by 9;");
        coastFault(4, "coast |10 by 1;");
        coastFault(4, "coast 5 by |0;");
        coastFault(4, "coast 5 by |6;");
        coastFault(4, "coast 5 by |9999;");
        coastFault(4, "odds |17;");
        coastFault(4, "rock |20 deep 10;");
        coastFault(4, "rock |32 deep 1;");
        coastFault(4, "rock |9999 deep 1;");
        coastFault(4, "rock 0 deep |10;");
        coastFault(4, "cousin x at |20 wide 9 high 9;");
        coastFault(4, "cousin x at 0 wide |0 high 9;");
        coastFault(4, "cousin x at 1 wide |5 high 9;");
        coastFault(4, "cousin x at 0 wide |9999 high 9;");
        coastFault(4, "cousin x at 5 wide 5 high |4;");
        coastFault(4, "cousin x at 5 wide 5 high |0;");
        coastFault(4, "cousin x at 5 wide 5 high |9999;");
        coastFault(4, X + " tan |10;");
        coastFault(4, "cousin x at 6 wide 2 high 2 inked |5;");
        coastFault(4, "cousin x at 6 wide 2 high 2 inked |8;");
        coastFault(4, "cousin x at 6 wide 2 high 2 inked |1;");
        coastFault(4, "cousin x at 6 wide 2 high 2 inked |16;");
        coastFault(4, "cousin x at 6 wide 2 high 2 inked |20;");
        coastFault(4, "cousin x at 6 wide 2 high 2 inked |38;");
        coastFault(4, "cousin x at 6 wide 2 high 2 inked 6 7 11 12 |13;");
        coast("cousin x at 6 wide 2 high 2 inked 6 7 11 12;", 1);
    }

    @Sentence(promise = 10, words = "so wide, high that the PATCH would go beyond the COAST;")
    void numbersOfASecondCousin() {
        coastFault(4, X + "; cousin y at |20 wide 1 high 1;");
        coastFault(4, X + "; cousin y at 19 wide |2 high 1;");
        coastFault(4, X + "; cousin y at 19 wide |0 high 1;");
        coastFault(4, X + "; cousin y at 19 wide 1 high |2;");
        coastFault(4, X + "; cousin y at 19 wide 1 high |0;");
        coastFault(4, X + "; cousin y at 19 wide 1 high 1 tan |10;");
        coastFault(4, X + "; cousin y at 19 wide 1 high 1 inked |0;");
        coastFault(1, X + "; cousin y at |00019 wide 1 high 1;");
        coastFault(2, X + "; cousin y at 19 |tan 1;");
        coastFault(2, X + "; cousin y at 19 wide 1 |veiled;");
        coastFault(2, X + "; cousin y |tan 1;");
    }

    @Sentence(promise = 10, words = "5 coast, odds told already, coast behind a rock, cousin (at that"
            + " WORD);")
    void coastAndOddsOnlyOnce() {
        coastFault(5, "coast 5 by 4; |coast 5 by 4;");
        coastFault(5, "coast 5 by 4; odds 1; |coast 5 by 4;");
        coastFault(5, "coast 5 by 4; |coast");
        coastFault(5, "odds 1; |odds 1;");
        coastFault(5, "odds 8; coast 5 by 4; |odds 8;");
        coastFault(5, "odds 1; rock 0 deep 1; " + X + "; |odds 99;");
        coastFault(5, "rock 0 deep 1; |coast 5 by 4;");
        coastFault(5, X + "; |coast 5 by 4;");
        coastFault(5, "coast 5 by 4; rock 0 deep 1; |coast 5 by 4;");
        coast("odds 1; coast 5 by 4; rock 0 deep 1;", 0);
        coast("rock 0 deep 1; " + X + "; odds 1;", 1);
        // Behind a text that told them they can be told once more.
        told(Texts.coast(x, "coast 1 by 1; odds 1;"), 0);
        told(Texts.coast(x, "odds 2; coast 1 by 1;"), 0);
    }

    @Sentence(promise = 10, words = "a second rock in a CELL, a CELL INKED twice (at that NUMBER).")
    void oneRockAndOneTattooInACell() {
        coastFault(5, "rock 0 deep 1; rock |0 deep 1;");
        coastFault(5, "rock 19 deep 1; rock 0 deep 1; rock |19 deep 2;");
        coastFault(5, "rock 7 deep 9; rock |7");
        coastFault(5, ROCKS.replace("rock 14 ", "rock |13 "));
        coastFault(5, "cousin x at 0 wide 2 high 1 inked 0 |0;");
        coastFault(5, "cousin x at 0 wide 2 high 1 inked 0 1 |0");
        coast("cousin x at 0 wide 2 high 1 inked 0 1; cousin y at 0 wide 2 high 1 inked 0 1;", 2);
    }

    @Sentence(promise = 10, words = "6 a 16th rock, a seventh cousin (at that WORD), a seventh INKED CELL"
            + " (at it).")
    void oneTooMany() {
        coastFault(6, ROCKS + "|rock 15 deep 1;");
        coastFault(6, ROCKS + "odds 1; |rock");
        coastFault(6, SIX + "|cousin g at 0 wide 1 high 1;");
        coastFault(6, SIX + "rock 0 deep 1;|cousin");
        coastFault(6, "cousin x at 0 wide 5 high 2 inked 0 1 2 3 4 5 |6;");
        coastFault(6, "cousin x at 0 wide 5 high 2 inked 9 8 7 6 5 4 |3 2 1;");
        coastFault(2, ROCKS + "|rocks 15 deep 1;");
        coast(ROCKS + SIX, 6);
    }

    @Sentence(promise = 10, words = "FAULTS, the first along the text")
    void theFirstAlongTheText() {
        coastFault(4, "odds |17; A");
        coastFault(2, "odds |; odds 17; A");
        coastFault(1, "odds |A; ;");
        coastFault(5, "odds 1; |odds 17;");
        coastFault(4, "rock |20 deep 10; rock 20 deep 1;");
        coastFault(5, "rock 0 deep 1; rock |0 deep 10;");
        coastFault(3, X + "; cousin |x at 99 wide 99 high 99 tan 99 inked 99;");
        coastFault(4, "cousin y at |99 wide 99 high 99 tan 99 inked 99;");
        coastFault(4, "cousin y at 0 wide |99 high 99 tan 99 inked 99;");
        coastFault(4, "cousin y at 0 wide 1 high |99 tan 99 inked 99;");
        coastFault(4, "cousin y at 0 wide 1 high 1 tan |99 inked 99;");
        coastFault(4, "cousin y at 0 wide 1 high 1 tan 9 inked |99 A");
        coastFault(2, "coast 5 |4; coast");
        coastFault(2, X + "|");
    }

    @Sentence(promise = 10, words = "(of one TOKEN the least kind)")
    void theLeastKindOfOneToken() {
        coastFault(4, "cousin x at 0 wide 5 high 1 inked 0 1 2 3 4 |5;");
        coastFault(4, "cousin x at 0 wide 5 high 2 inked 0 1 2 3 4 5 |10;");
        coastFault(5, "cousin x at 0 wide 5 high 2 inked 0 1 2 3 4 5 |0;");
        coastFault(5, "cousin x at 0 wide 5 high 2 inked 0 1 2 3 4 5 |5;");
        coastFault(1, "cousin x at 0 wide 5 high 2 inked 0 1 2 3 4 5 |00006;");
        coastFault(2, "cousin x at 0 wide 5 high 2 inked 0 1 2 3 4 5 |x;");
        coastFault(5, "coast 5 by 4; rock 0 deep 1; |coast 5 by 4;");
        // A seventh cousin counts at its word, ahead of a name that is taken.
        coastFault(6, SIX + "|cousin a at 0 wide 1 high 1;");
        coastFault(6, ROCKS + "|rock 0 deep 1;");
    }
}
