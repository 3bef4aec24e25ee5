/** Promise 11: what YEARS can be, their FAULTS, each at its place. */
final class BoundsOfYears extends Bounds {
    @Sentence(promise = 11, words = "YEARS: {STEP}.")
    void anEmptyTextHasNoSteps() {
        years("", 0);
        years("\n \n", 0);
        years("any;", 1);
        years("any; any;", 2);
    }

    @Sentence(promise = 11, words = "of such TOKENS")
    void theTokensOfYears() {
        years("rain9;sun ann 1;\nrain\n0001\n;when tan ben<9;end;", 4);
        yearsFault(1, "|A");
        yearsFault(1, "rain |00001;");
        yearsFault(1, "rain |12345;");
        yearsFault(1, "rain 1|.");
        yearsFault(1, "any|\t;");
        yearsFault(1, "|\u00FF");
        yearsFault(1, "sun |Ann 1;");
        yearsFault(1, "when tan ann |! 1;");
        yearsFault(1, "any; |\u0000");
    }

    @Sentence(promise = 11, words = "sun, rain: 1 to 9;")
    void sunsAndRainsOfOneToNine() {
        years("sun ann 1; sun ben 9; rain 1; rain 9;", 4);
        yearsFault(4, "sun ann |0;");
        yearsFault(4, "sun ann |10;");
        yearsFault(4, "rain |0;");
        yearsFault(4, "rain |10;");
    }

    @Sentence(promise = 11, words = "ink: a CELL;")
    void inkInACell() {
        years("ink ann 0; ink ann 19; ink ben 19;", 3);
        yearsFault(4, "ink ann |20;");
        yearsFault(4, "ink ann |9999;");
        chart("coast 6 by 5; cousin ann at 0 wide 1 high 1;", "ink ann 29;");
        same("years", Texts.years(x, "ink ann 30;"), NONE);
        same("fault(0)", x.fault(0), 4);
        chart("coast 1 by 1; cousin ann at 0 wide 1 high 1;", "ink ann 0;");
        same("years", Texts.years(x, "ink ann 1;"), NONE);
        same("fault(0)", x.fault(0), 4);
    }

    @Sentence(promise = 11, words = "from a CELL to another one (perhaps the same), a DRAFT (1 to 10);")
    void sailsFromCellToCell() {
        years("sail ann 0 19 1; sail ann 19 0 10; sail ben 19 19 1;", 3);
        yearsFault(4, "sail ann |20 0 1;");
        yearsFault(4, "sail ann 0 |20 1;");
        yearsFault(4, "sail ann 0 19 |0;");
        yearsFault(4, "sail ann 0 19 |11;");
    }

    @Sentence(promise = 11, words = "shows: a CELL; tan: 0 to 9;")
    void testsOfACellOfATan() {
        years("when shows ann 0; end; when shows ben 19; end;", 2);
        yearsFault(4, "when shows ann |20; end;");
        years("when tan ann < 0; end; when tan ann > 9; end; when tan ben = 0; end;", 3);
        yearsFault(4, "when tan ann < |10; end;");
        yearsFault(4, "when tan ann > |10; end;");
        yearsFault(4, "when tan ann = |10; end;");
    }

    @Sentence(promise = 11, words = "loop n (1 to 99): as often.")
    void loopsOfOneToNinetyNine() {
        years("loop 1; end; loop 99; end; loop 0099; end;", 3);
        yearsFault(4, "loop |0; end;");
        yearsFault(4, "loop |100; end;");
    }

    @Sentence(promise = 11, words = "TEST: shows NAME NUMBER, or tan NAME COMPARES NUMBER, or veiled NAME."
            + " COMPARES: < or > or =")
    void whatATestIs() {
        years("when veiled ann; end; when shows ann 1; end; when tan ann=1; end;", 3);
        yearsFault(2, "when |; end;");
        yearsFault(2, "when |ann; end;");
        yearsFault(2, "when |sun ann 1; end;");
        yearsFault(2, "when |bare ann; end;");
        yearsFault(2, "when shows |1; end;");
        yearsFault(2, "when shows ann |; end;");
        yearsFault(2, "when shows ann |< 1; end;");
        yearsFault(2, "when tan ann |1; end;");
        yearsFault(2, "when tan ann |; end;");
        yearsFault(2, "when tan ann < |= 1; end;");
        yearsFault(2, "when tan ann < |; end;");
        yearsFault(2, "when veiled |; end;");
        yearsFault(2, "when veiled ann |1; end;");
        yearsFault(2, "when veiled ann |end;");
    }

    @Sentence(promise = 11, words = "FAULTS: 1, 2 as above (an end without a beginning; the text's end"
            + " ahead of an end: 2).")
    void endsAndBeginnings() {
        yearsFault(2, "|end;");
        yearsFault(2, "any; |end;");
        yearsFault(2, "loop 1; end; |end;");
        yearsFault(2, "loop 1; when veiled ann; end; end; |end;");
        yearsFault(2, "loop 1;|");
        yearsFault(2, "loop 1; any;  |");
        yearsFault(2, "when veiled ann;\n|");
        yearsFault(2, "loop 1; loop 1; end;|");
        yearsFault(2, "loop 1; loop 1; loop 1; end; end;|");
        yearsFault(2, "loop 1; end|");
        yearsFault(2, "loop 1; end |end;");
        yearsFault(2, "loop 1; end |1;");
        years("loop 1; end;", 1);
        // What was left open in a text ahead is not open in the next one.
        x = pair();
        same("years", Texts.years(x, "loop 1; loop 1; loop 1;"), NONE);
        same("years", Texts.years(x, "end;"), NONE);
        same("fault(0)", x.fault(0), 2);
        same("fault(1)", x.fault(1), 0);
        told(Texts.years(x, "loop 1; loop 1; loop 1; end; end; end;"), 3);
        same("years", Texts.years(x, "loop 1; loop 1;"), NONE);
        told(Texts.years(x, "any;"), 1);
        years("loop 1; loop 1; loop 1; end; end; end;", 3);
        years("loop 1; loop 1; end; loop 1; end; end; when veiled ann; end;", 4);
    }

    @Sentence(promise = 11, words = "2 it can't stand there (the end: the text's length;")
    void theEndCannotStandThere() {
        String[] steps = {"sun ann 1;", "rain 1;", "veil ann;", "bare ann;", "ink ann 1;",
            "wash ann;", "sail ann 0 1 1;", "any;", "when shows ann 1;", "when tan ann < 1;",
            "when veiled ann;", "loop 2;", "stop;"};
        for (String step : steps) {
            for (int length = 1; length < step.length(); length++) {
                if (step.charAt(length) == ' ' || step.charAt(length) == ';') {
                    yearsFault(2, step.substring(0, length) + "|");
                    yearsFault(2, "any;" + step.substring(0, length) + "\n |");
                }
            }
        }
    }

    @Sentence(promise = 11, words = "STEP: sun NAME NUMBER ; or rain NUMBER ; or veil NAME ; or bare NAME ;"
            + " or ink NAME NUMBER ; or wash NAME ; or sail NAME NUMBER NUMBER NUMBER ; or any ;")
    void tokensThatCannotStandThere() {
        yearsFault(2, "|;");
        yearsFault(2, "|ann;");
        yearsFault(2, "|1;");
        yearsFault(2, "|shows ann 1;");
        yearsFault(2, "|coast 5 by 4;");
        yearsFault(2, "any; |rock 1 deep 1;");
        yearsFault(2, "sun |1;");
        yearsFault(2, "sun ann |;");
        yearsFault(2, "sun ann |ben 1;");
        yearsFault(2, "sun ann 1 |1;");
        yearsFault(2, "rain |;");
        yearsFault(2, "rain |ann 1;");
        yearsFault(2, "rain 1 |1;");
        yearsFault(2, "veil |;");
        yearsFault(2, "veil |1;");
        yearsFault(2, "veil ann |ben;");
        yearsFault(2, "bare ann |1;");
        yearsFault(2, "ink ann |;");
        yearsFault(2, "ink ann 1 |1;");
        yearsFault(2, "wash |;");
        yearsFault(2, "wash ann |1;");
        yearsFault(2, "sail ann 0 1 |;");
        yearsFault(2, "sail ann 0 |ann;");
        yearsFault(2, "sail ann 0 1 1 |1;");
        yearsFault(2, "any |ann;");
        yearsFault(2, "any |1;");
        yearsFault(2, "stop |1;");
        yearsFault(2, "loop |;");
        yearsFault(2, "loop |ann;");
        yearsFault(2, "loop 1 |1; end;");
        yearsFault(2, "any |any;");
        yearsFault(2, "any|<");
    }

    @Sentence(promise = 11, words = "a WORD of 9 letters and more where a NAME must stand).")
    void aWordOfNineLetters() {
        yearsFault(2, "veil |abcdefghi;");
        yearsFault(2, "sun |annannann 1;");
        yearsFault(3, "veil |abcdefgh;");
        chart("cousin abcdefgh at 0 wide 1 high 1;", "veil abcdefgh;");
        same("years", Texts.years(x, "veil abcdefghi;"), NONE);
        same("fault(0)", x.fault(0), 2);
        same("years", Texts.years(x, "veil abcdefg;"), NONE);
        same("fault(0)", x.fault(0), 3);
        yearsFault(2, "|stopstopstop;");
    }

    @Sentence(promise = 11, words = "that is none of coast, by, odds, rock, deep")
    void noNameIsOneOfTheWords() {
        String words = "coast by odds rock deep cousin at wide high tan veiled inked sun rain veil"
                + " bare ink wash sail any when shows loop end stop";
        for (String word : words.split(" ")) {
            yearsFault(2, "veil |" + word + ";");
        }
    }

    @Sentence(promise = 11, words = "3 a NAME that is no COUSIN.")
    void aNameThatIsNoCousin() {
        yearsFault(3, "sun |cyd 0;");
        yearsFault(3, "veil |an;");
        yearsFault(3, "veil |annn;");
        yearsFault(3, "bare |x;");
        yearsFault(3, "ink |x 99;");
        yearsFault(3, "wash |x;");
        yearsFault(3, "sail |x 99;");
        yearsFault(3, "when shows |x 99;");
        yearsFault(3, "when tan |x;");
        yearsFault(3, "when veiled |x;");
        // Nobody who is born has a name; nobody is there at first.
        same("years", Texts.years(x, "veil ann;"), NONE);
        same("fault(0)", x.fault(0), 3);
        told(x.born(0, 1, 1), 0);
        same("years", Texts.years(x, "veil a;"), NONE);
        same("fault(0)", x.fault(0), 3);
        // The names are those of the coast that is there.
        told(Texts.coast(x, "cousin ann at 0 wide 1 high 1;"), 1);
        told(Texts.years(x, "veil ann;"), 1);
        told(Texts.coast(x, "cousin ben at 0 wide 1 high 1;"), 1);
        same("years", Texts.years(x, "veil ann;"), NONE);
        same("fault(0)", x.fault(0), 3);
    }

    @Sentence(promise = 11, words = "4 a NUMBER that can't be (no such CELL, too).")
    void numbersThatCannotBe() {
        yearsFault(4, "rain |9999;");
        yearsFault(4, "sun ann |0;");
        yearsFault(4, "ink ann |20;");
        yearsFault(4, "sail ann |99 99 99;");
        yearsFault(4, "sail ann 0 |99 99;");
        yearsFault(4, "sail ann 0 0 |99;");
        yearsFault(4, "when shows ben |20;");
        yearsFault(4, "loop |9999;");
        // A cell that is not of the patch can be.
        years("ink ben 19; when shows ben 19; end; sail ben 18 19 1;", 3);
    }

    @Sentence(promise = 11, words = "6 a 31st STEP (at its WORD; end is none).")
    void thirtySteps() {
        years("any;".repeat(30), 30);
        yearsFault(6, "any;".repeat(30) + "|any;");
        yearsFault(6, "any;".repeat(30) + "|rain 0;");
        yearsFault(6, "any;".repeat(30) + "|stop");
        yearsFault(6, "any;".repeat(30) + "|loop 1;");
        yearsFault(6, "any;".repeat(30) + "|when");
        years("loop 1;end;".repeat(15) + "any;".repeat(15), 30);
        yearsFault(6, "loop 1;end;".repeat(15) + "any;".repeat(15) + "|any;");
        years("loop 1;end;".repeat(27), 27);
        years("any;".repeat(29) + "loop 1;end;", 30);
        years("any;".repeat(27) + "loop 1;loop 1;loop 1;end;end;end;", 30);
        yearsFault(2, "any;".repeat(30) + "|end;");
        yearsFault(2, "any;".repeat(30) + "|ann;");
        yearsFault(2, "any;".repeat(29) + "loop 1;|");
        yearsFault(6, "any;".repeat(29) + "loop 1;|any;end;");
    }

    @Sentence(promise = 11, words = "YEARS are a TEXT of at most 300 bytes")
    void fullYears() {
        StringBuilder text = new StringBuilder("loop 99;when shows ann 1;loop 1;rain 9;end;end;end;");
        text.append("loop 1;end;".repeat(10)).append("when tan ann < 9;end;");
        text.append("any;".repeat(15));
        text.append(" ".repeat(299 - text.length())).insert(0, '\n');
        same("how long the text is", text.length(), 300);
        years(text.toString(), 30);
        // 99 times the first when, ten loops, the last when, and 15 times any.
        told(x.live(0), 126);
    }

    @Sentence(promise = 11, words = "7 a when, loop within three others (at its WORD).")
    void threeWithinOneAnother() {
        years("loop 1;loop 1;loop 1;any;end;end;end;", 4);
        years("when veiled ann;loop 1;when veiled ben;any;end;end;end;", 4);
        yearsFault(7, "loop 1;loop 1;loop 1;|loop 1;end;end;end;end;");
        yearsFault(7, "loop 1;loop 1;loop 1;|when veiled ann;end;end;end;end;");
        yearsFault(7, "when veiled ann;when veiled ann;when veiled ann;|when");
        yearsFault(7, "when veiled ann;when veiled ann;when veiled ann;any;|loop 0;");
        yearsFault(7, "loop 1;loop 1;loop 1;end;loop 1;|loop 1;");
        years("loop 1;loop 1;loop 1;end;loop 1;end;end;loop 1;loop 1;end;end;end;", 6);
        yearsFault(2, "loop 1;loop 1;loop 1;|ann;");
    }

    @Sentence(promise = 11, words = "the first along the text (of one TOKEN the least kind)")
    void theFirstAlongTheText() {
        yearsFault(4, "rain |0; A");
        yearsFault(2, "rain |; rain 0;");
        yearsFault(3, "sun |cyd 0;");
        yearsFault(4, "sun ann |0; end;");
        yearsFault(2, "rain 1 |any; loop 0;");
        yearsFault(1, "any; |?; end;");
        // A 31st step that is within three others: 6 before 7.
        yearsFault(6, "any;".repeat(27) + "loop 1;loop 1;loop 1;|loop 1;");
        yearsFault(7, "any;".repeat(26) + "loop 1;loop 1;loop 1;|loop 1;");
    }
}
