/** Promise 10: what a COAST can be, from the least to the most of all. */
final class BoundsOfCoasts extends Bounds {
    private static final String X = "cousin x at 0 wide 1 high 1";

    /** The text of an x with a patch of two rows, and with more behind. */
    private static String inked(String more) {
        return "cousin x at 0 wide 5 high 2 inked" + more + ";";
    }

    @Sentence(promise = 10, words = "COAST: {PART}.")
    void anEmptyTextIsACoast() {
        coast("", 0);
        int[] many = {5, 4, 0, 0, 8, 0, 0, 0, 0};
        for (int what = 0; what < many.length; what++) {
            told(x.many(what), many[what]);
        }
        coast(" ", 0);
        coast("\n", 0);
        coast(" \n\n  ", 0);
        coast("odds 1;", 0);
        coast("odds 1;rock 0 deep 0;", 0);
        coast("rock 0 deep 0;odds 1;", 0);
    }

    @Sentence(promise = 10, words = "between them blanks (10, 32)")
    void twoBytesAreBlanks() {
        for (int b = 0; b < 256; b++) {
            x = new FreckleChart();
            String text = "odds" + (char) b + "3;";
            int answer = Texts.coast(x, text);
            boolean isBlank = b == 10 || b == 32 || b >= '0' && b <= '1';
            if (b == 10 || b == 32) {
                same("coast with blank " + b, answer, 0);
                told(x.many(4), 3);
            } else if (b == '0' || b == '1') {
                same("coast with digit " + b, answer, 0);
                told(x.many(4), b == '0' ? 3 : 13);
            } else {
                same("coast with byte " + b, answer, NONE);
                same("STATUS", x.status(), 10);
            }
            same("byte " + b + " is taken", x.status() == 0 ? 1 : 0, isBlank ? 1 : 0);
        }
    }

    @Sentence(promise = 10, words = "TOKENS, as long as they go")
    void noBlanksAreNeededBetweenTokensOfOtherKinds() {
        coast("odds3;rock4deep5;cousin x at6wide1high2tan7;", 1);
        told(x.many(4), 3);
        told(x.deep(4), 5);
        told(x.cousin(0, 0), 6);
        told(x.cousin(0, 2), 2);
        told(x.cousin(0, 3), 7);
        coast("odds 3\n;\nrock\n4\ndeep\n5\n;\n", 0);
        coast(X + " inked0;", 1);
        told(x.cousin(0, 5), 1);
        // A word, a number goes as far as it can.
        coastFault(2, "|oddsrock 1 deep 1;");
        coastFault(2, "odds 1 |2;");
        coastFault(4, "odds |17;");
        coastFault(2, "cousin xat |0 wide 1 high 1;");
    }

    @Sentence(promise = 10, words = "WORDS (small letters)")
    void smallLettersAreThoseFromAToZ() {
        coast("cousin abcdefgh at 0 wide 1 high 1; cousin ijklmnop at 0 wide 1 high 1;"
                + " cousin qrstuvwx at 0 wide 1 high 1; cousin zy at 0 wide 1 high 1;", 4);
        coastFault(1, "cousin |` at 0 wide 1 high 1;");
        coastFault(1, "cousin |{ at 0 wide 1 high 1;");
        coastFault(1, "cousin |A at 0 wide 1 high 1;");
        coastFault(1, "cousin |Z at 0 wide 1 high 1;");
        coastFault(1, "cousin a|Z at 0 wide 1 high 1;");
        coastFault(1, "cousin |\u00E9 at 0 wide 1 high 1;");
        coastFault(1, "|Odds 1;");
        // Each letter counts, the first and the last one too.
        coast("cousin abcdefgh at 0 wide 1 high 1; cousin bbcdefgh at 0 wide 1 high 1;"
                + " cousin abcdefgg at 0 wide 1 high 1; cousin abcdefg at 0 wide 1 high 1;"
                + " cousin bcdefgh at 0 wide 1 high 1;", 5);
    }

    @Sentence(promise = 10, words = "NUMBERS (1 to 4 digits)")
    void aNumberHasFourDigitsAtMost() {
        coast("odds 0;", 0);
        coast("odds 0009;", 0);
        told(x.many(4), 9);
        coast("rock 0010 deep 0009;", 0);
        told(x.deep(10), 9);
        coastFault(4, "odds |9999;");
        coastFault(1, "odds |00009;");
        coastFault(1, "odds |10000;");
        coastFault(1, "odds |65536;");
        coastFault(1, "odds |4294967297;");
        coastFault(1, "odds |/;");
        coastFault(1, "odds |:;");
        coastFault(1, "odds 1|:;");
        coastFault(1, "odds |-1;");
        coastFault(1, "odds |+1;");
        coastFault(1, "odds 1|.0;");
    }

    @Sentence(promise = 10, words = "SIGNS ; < > =")
    void fourSigns() {
        coastFault(2, "|;");
        coastFault(2, "|<");
        coastFault(2, "|=");
        coastFault(2, "|>");
        coastFault(1, "|?");
        coastFault(1, "|!");
        coastFault(1, "|,");
        coastFault(1, "odds 1|:");
        coastFault(2, "odds 1|<");
        coastFault(2, "odds 1|=");
        coastFault(2, "odds 1|>");
        coastFault(2, "odds 1;|;");
    }

    @Sentence(promise = 10, words = "[tan NUMBER] [veiled] [inked {NUMBER}] ;")
    void whatACousinPerhapsHas() {
        for (int has = 0; has < 8; has++) {
            boolean tan = (has & 1) != 0;
            boolean veiled = (has & 2) != 0;
            boolean inked = (has & 4) != 0;
            coast(X + (tan ? " tan 4" : "") + (veiled ? " veiled" : "")
                    + (inked ? " inked 0" : "") + ";", 1);
            told(x.cousin(0, 3), tan ? 4 : 0);
            told(x.cousin(0, 4), veiled ? 1 : 0);
            told(x.cousin(0, 5), inked ? 1 : 0);
            told(x.many(7), veiled ? 1 : 0);
        }
        coast(X + " inked;", 1);
        told(x.cousin(0, 5), 0);
        coastFault(2, X + " veiled |tan 4;");
        coastFault(2, X + " inked |veiled;");
        coastFault(2, X + " inked 0 |tan 4;");
        coastFault(2, X + " tan 4 |tan 4;");
        coastFault(2, X + " veiled |veiled;");
        coastFault(2, X + " inked 0 |inked;");
        coastFault(2, X + " tan|;");
        coastFault(2, X + " veiled |1;");
        coastFault(2, X + " |0;");
    }

    @Sentence(promise = 10, words = "NAME: a WORD of 1 to 8 letters")
    void aNameHasOneToEightLetters() {
        coast("cousin a at 0 wide 1 high 1;", 1);
        coast("cousin z at 0 wide 1 high 1;", 1);
        coast("cousin abcdefgh at 0 wide 1 high 1;", 1);
        coastFault(2, "cousin |abcdefghi at 0 wide 1 high 1;");
        coastFault(2, "cousin |abcdefghijklmnop at 0 wide 1 high 1;");
        coastFault(2, "cousin |1 at 0 wide 1 high 1;");
        coastFault(2, "cousin |; at 0 wide 1 high 1;");
        coastFault(2, "cousin |");
    }

    @Sentence(promise = 10, words = "that is none of coast, by, odds, rock, deep, cousin, at, wide, high,"
            + " tan, veiled, inked, sun, rain, veil, bare, ink, wash, sail, any, when, shows, loop,"
            + " end, stop.")
    void noneOfTwentyFiveWords() {
        String words = "coast by odds rock deep cousin at wide high tan veiled inked sun rain veil"
                + " bare ink wash sail any when shows loop end stop";
        for (String word : words.split(" ")) {
            coastFault(2, "cousin |" + word + " at 0 wide 1 high 1;");
            coast("cousin " + word + "s" + " at 0 wide 1 high 1;", 1);
            coast("cousin a" + word + " at 0 wide 1 high 1;", 1);
            coast("cousin " + word.substring(1).concat("z") + " at 0 wide 1 high 1;", 1);
            String shorter = word.substring(0, word.length() - 1);
            coast("cousin " + shorter + " at 0 wide 1 high 1;", 1);
        }
    }

    @Sentence(promise = 10, words = "so WIDE (1 to 6; 5 without), so HIGH (1 to 5; 4 without)")
    void theSizeOfACoast() {
        for (int wide = 1; wide <= 6; wide++) {
            for (int high = 1; high <= 5; high++) {
                coast("coast " + wide + " by " + high + ";", 0);
                told(x.many(0), wide);
                told(x.many(1), high);
                same("the last cell", x.deep(wide * high - 1), NONE);
                same("STATUS", x.status(), 8);
                same("behind the last cell", x.deep(wide * high), NONE);
                same("STATUS", x.status(), 2);
            }
        }
        coastFault(4, "coast |0 by 1;");
        coastFault(4, "coast |7 by 1;");
        coastFault(4, "coast 1 by |0;");
        coastFault(4, "coast 1 by |6;");
        coastFault(4, "coast 6 by |6;");
        coast("odds 3;", 0);
        told(x.many(0), 5);
        told(x.many(1), 4);
        // What the coast ahead was counts for nothing.
        told(Texts.coast(x, "coast 6 by 5;"), 0);
        told(x.coast(0), 0);
        told(x.many(0), 5);
        told(x.many(1), 4);
    }

    @Sentence(promise = 10, words = "ODDS (0 to 16; 8 without).")
    void theOddsOfACoast() {
        coast("odds 0;", 0);
        told(x.many(4), 0);
        coast("odds 16;", 0);
        told(x.many(4), 16);
        coastFault(4, "odds |17;");
        coast("coast 5 by 4;", 0);
        told(x.many(4), 8);
        told(x.rule(3));
        told(x.coast(0), 0);
        told(x.many(4), 8);
    }

    @Sentence(promise = 10, words = "CELL 0 .. row by row.")
    void cellsRowByRow() {
        coast("coast 3 by 2; cousin x at 1 wide 2 high 2; cousin y at 3 wide 3 high 1;", 2);
        told(x.cousin(0, 6), set(1, 2, 4, 5));
        told(x.cousin(1, 6), set(3, 4, 5));
        coast("coast 2 by 3; cousin x at 1 wide 1 high 3; cousin y at 2 wide 2 high 2;", 2);
        told(x.cousin(0, 6), set(1, 3, 5));
        told(x.cousin(1, 6), set(2, 3, 4, 5));
        coast("coast 6 by 5; cousin x at 0 wide 6 high 5;", 1);
        told(x.cousin(0, 6), (1 << 30) - 1);
    }

    private static String rocks(int many) {
        StringBuilder text = new StringBuilder();
        for (int cell = 0; cell < many; cell++) {
            text.append("rock ").append(cell).append(" deep 1;");
        }
        return text.toString();
    }

    @Sentence(promise = 10, words = "ROCKS, at most 15: in a CELL, with a DEPTH of water above (0 to 9).")
    void theRocksOfACoast() {
        coast(rocks(15), 0);
        told(x.many(2), 15);
        told(x.many(8), (1 << 15) - 1);
        told(x.rock(14, 0), 14);
        coastFault(6, rocks(15) + "|rock 15 deep 1;");
        coast("rock 0 deep 0; rock 19 deep 9;", 0);
        told(x.deep(0), 0);
        told(x.deep(19), 9);
        coastFault(4, "rock |20 deep 1;");
        coastFault(4, "rock 19 deep |10;");
        coast("coast 6 by 5; rock 29 deep 1;", 0);
        told(x.many(8), 1 << 29);
        coastFault(4, "coast 6 by 5; rock |30 deep 1;");
        coast("coast 1 by 1; rock 0 deep 1;", 0);
        coastFault(4, "coast 1 by 1; rock |1 deep 1;");
        coastFault(4, "coast 6 by 4; rock |24 deep 1;");
        coastFault(4, "coast 5 by 5; rock |25 deep 1;");
    }

    private static String cousins(int many) {
        StringBuilder text = new StringBuilder();
        for (int i = 0; i < many; i++) {
            text.append("cousin ").append((char) ('a' + i)).append(" at 0 wide 1 high 1;");
        }
        return text.toString();
    }

    @Sentence(promise = 10, words = "COUSINS, at most 6")
    void theCousinsOfACoast() {
        coast("", 0);
        coast(cousins(1), 1);
        coast(cousins(6), 6);
        told(x.many(3), 6);
        coastFault(6, cousins(6) + "|cousin g at 0 wide 1 high 1;");
    }

    @Sentence(promise = 10, words = "a PATCH, whose first CELL is told, so wide and high that it is on the"
            + " COAST")
    void thePatchOfACousin() {
        coast("cousin x at 0 wide 5 high 4;", 1);
        told(x.cousin(0, 6), (1 << 20) - 1);
        coast("cousin x at 19 wide 1 high 1;", 1);
        told(x.cousin(0, 6), 1 << 19);
        coastFault(4, "cousin x at |20 wide 1 high 1;");
        coastFault(4, "cousin x at 0 wide |0 high 1;");
        coastFault(4, "cousin x at 0 wide |6 high 1;");
        coastFault(4, "cousin x at 0 wide 1 high |0;");
        coastFault(4, "cousin x at 0 wide 1 high |5;");
        coast("cousin x at 8 wide 2 high 3;", 1);
        told(x.cousin(0, 6), set(8, 9, 13, 14, 18, 19));
        coastFault(4, "cousin x at 8 wide |3 high 3;");
        coastFault(4, "cousin x at 8 wide 2 high |4;");
        coastFault(4, "cousin x at 19 wide |2 high 1;");
        coastFault(4, "cousin x at 19 wide 1 high |2;");
        coastFault(4, "cousin x at 4 wide |2 high 1;");
        coast("cousin x at 15 wide 5 high 1;", 1);
        coastFault(4, "coast 1 by 1; cousin x at |1 wide 1 high 1;");
        coastFault(4, "coast 6 by 5; cousin x at |30 wide 1 high 1;");
        coastFault(4, "coast 6 by 5; cousin x at 29 wide |2 high 1;");
    }

    @Sentence(promise = 10, words = "TAN (0 to 9; 0 without)")
    void theTanOfACousin() {
        coast(X + " tan 0;", 1);
        told(x.cousin(0, 3), 0);
        coast(X + " tan 9;", 1);
        told(x.cousin(0, 3), 9);
        coastFault(4, X + " tan |10;");
        // In a text taken behind one with a tan there is none.
        told(Texts.coast(x, X + ";"), 1);
        told(x.cousin(0, 3), 0);
    }

    @Sentence(promise = 10, words = "VEILED, or bare")
    void aCousinIsBareWithoutTheWord() {
        coast("cousin x at 0 wide 1 high 1 veiled; cousin y at 0 wide 1 high 1;", 2);
        told(x.many(7), 1);
        told(Texts.coast(x, X + ";"), 1);
        told(x.many(7), 0);
        told(x.cousin(0, 4), 0);
    }

    @Sentence(promise = 10, words = "INKED CELLS of the PATCH, at most 6 (each once).")
    void theInkOfACousin() {
        coast(inked(""), 1);
        told(x.cousin(0, 5), 0);
        coast(inked(" 9 0 4 5 1 8"), 1);
        told(x.cousin(0, 5), set(0, 1, 4, 5, 8, 9));
        coastFault(6, inked(" 9 0 4 5 1 8 |2"));
        coastFault(5, inked(" 9 |9"));
        coastFault(5, inked(" 9 0 |9"));
        coastFault(4, inked(" |10"));
        coastFault(4, inked(" 9 |20"));
        told(Texts.coast(x, X + ";"), 1);
        told(x.cousin(0, 5), 0);
    }

    @Sentence(promise = 10, words = "All are numbered as they stand.")
    void rocksAndCousinsAsTheyStand() {
        coast("rock 9 deep 1; cousin z at 3 wide 1 high 1; rock 2 deep 5; cousin y at 1 wide 1 high"
                + " 1; rock 4 deep 0;", 2);
        told(x.rock(0, 0), 9);
        told(x.rock(1, 0), 2);
        told(x.rock(1, 1), 5);
        told(x.rock(2, 0), 4);
        told(x.cousin(0, 0), 3);
        told(x.cousin(1, 0), 1);
    }

    @Sentence(promise = 10, words = "A COAST is a TEXT of at most 900 bytes.")
    void aFullCoast() {
        StringBuilder text = new StringBuilder("coast 6 by 5; odds 16;");
        for (int i = 0; i < 15; i++) {
            text.append("rock ").append(29 - i).append(" deep 9;");
        }
        for (int i = 0; i < 6; i++) {
            text.append("cousin abcdefg").append((char) ('u' + i))
                    .append(" at 0 wide 6 high 5 tan 9 veiled inked 24 25 26 27 28 29;");
        }
        text.insert(13, " ".repeat(900 - text.length()));
        same("how long the text is", text.length(), 900);
        coast(text.toString(), 6);
        int[] many = {6, 5, 15, 6, 16, 0, 0, 63, (1 << 30) - (1 << 15)};
        for (int what = 0; what < many.length; what++) {
            told(x.many(what), many[what]);
        }
        for (int cousin = 0; cousin < 6; cousin++) {
            told(x.cousin(cousin, 3), 9);
            told(x.cousin(cousin, 5), 63 << 24);
            told(x.cousin(cousin, 6), (1 << 30) - 1);
        }
        told(Texts.years(x, "bare abcdefgz;"), 1);
        told(x.live(0), 1);
        told(x.many(7), 31);
        told(x.shown(5), 63 << 24);
        told(x.freckled(5));
        fraction(1, 5);
    }

    @Sentence(promise = 10, words = "A COAST that is taken is there in place of that ahead; nobody"
            + " sailed; there are no YEARS.")
    void nothingOfTheCoastAheadIsLeft() {
        x = shore();
        told(x.coast(0), 0);
        int[] many = {5, 4, 0, 0, 8, 0, 0, 0, 0};
        for (int what = 0; what < many.length; what++) {
            told(x.many(what), many[what]);
        }
        same("a cell that was not there", x.deep(19), NONE);
        same("STATUS", x.status(), 8);
        same("live", x.live(0), NONE);
        same("STATUS", x.status(), 8);
        same("mean", of(x.mean(0, 1)), NONE);
        same("STATUS", x.status(), 8);
        told(x.born(0, 5, 4), 0);
        told(x.sun(0, 9), 9);
        told(x.shown(0), 0);
        told(x.forged(0), 0);
        told(x.wreck(6, 9), 0);
        same("years of a cousin that was", Texts.years(x, "veil ann;"), NONE);
        same("fault(0)", x.fault(0), 3);
    }

    @Sentence(promise = 10, words = "A COAST that is taken is there in place of that ahead")
    void whatIsNotOfTheCoastIsLeft() {
        x = shore();
        told(Texts.coast(x, ""), 0);
        told(x.read(0, 1), 99);
        told(x.lived(1), 1);
        fraction(1, 3);
        told(x.back(), 1);
        told(x.many(3), 3);
    }
}
