/** The texts of the coast and of the years: what is taken, and each FAULT with its place. */
final class TextsTest {
    private static final String ABC = "cousin a at 0 wide 1 high 1;cousin b at 0 wide 1 high 1;";
    private static final String ROCKS = "rock 0 deep 1;rock 1 deep 1;rock 2 deep 1;rock 3 deep 1;"
            + "rock 4 deep 1;rock 5 deep 1;rock 6 deep 1;rock 7 deep 1;rock 8 deep 1;rock 9 deep 1;"
            + "rock 10 deep 1;rock 11 deep 1;rock 12 deep 1;rock 13 deep 1;rock 14 deep 1;";
    private static final String KEYWORDS = "coast by odds rock deep cousin at wide high tan veiled"
            + " inked sun rain veil bare ink wash sail any when shows loop end stop";

    private final Expect expect = new Expect();

    public static void main(String[] args) {
        TextsTest t = new TextsTest();
        t.coastsTaken();
        t.coastTokens();
        t.coastGrammar();
        t.coastNumbers();
        t.coastTwiceAndTooMany();
        t.names();
        t.yearsTaken();
        t.yearsTokens();
        t.yearsGrammar();
        t.yearsNumbers();
        t.yearsTooMany();
        t.tapes();
        t.expect.end("TextsTest");
    }

    /** The place of the fault is where the sign | stands in the text, which is left out. */
    private void coastFault(int fault, String marked) {
        FreckleChart x = Texts.chart("coast 2 by 2; odds 3;");
        fault(x, "coast", fault, marked, Texts.coast(x, marked.replace("|", "")));
        expect.same("the old coast behind " + marked, x.many(4), 3);
    }

    private void yearsFault(int fault, String marked) {
        FreckleChart x = Texts.chart("cousin ann at 0 wide 5 high 4; cousin ben at 0 wide 1 high 1;",
                "stop; stop;");
        fault(x, "years", fault, marked, Texts.years(x, marked.replace("|", "")));
        expect.same("the old years behind " + marked, x.live(0), 1);
    }

    private void fault(FreckleChart x, String what, int fault, String marked, int answer) {
        String of = what + " " + marked;
        expect.same(of, answer, -1);
        expect.same(of + ": STATUS", x.status(), 10);
        expect.same(of + ": FAULT", x.fault(0), fault);
        expect.same(of + ": its place", x.fault(1), marked.indexOf('|'));
    }

    private FreckleChart coast(int cousins, String text) {
        FreckleChart x = new FreckleChart();
        expect.same("coast " + text, Texts.coast(x, text), cousins);
        expect.same("STATUS of coast " + text, x.status(), 0);
        expect.same("fault(0) of coast " + text, x.fault(0), 0);
        expect.same("fault(1) of coast " + text, x.fault(1), -1);
        return x;
    }

    private FreckleChart years(int steps, String text) {
        FreckleChart x = Texts.chart("cousin ann at 0 wide 5 high 4; cousin ben at 0 wide 1 high 1;");
        expect.same("years " + text, Texts.years(x, text), steps);
        expect.same("STATUS of years " + text, x.status(), 0);
        expect.same("fault(0) of years " + text, x.fault(0), 0);
        return x;
    }

    private void coastsTaken() {
        coast(0, "");
        coast(0, "  \n\n ");
        FreckleChart x = coast(1, "odds16;coast6by5;rock29deep9;\n"
                + "cousin abcdefgh at 29wide 1high 1tan 9veiled inked 29;");
        expect.same("odds", x.many(4), 16);
        expect.same("wide", x.many(0), 6);
        expect.same("tan", x.cousin(0, 3), 9);
        expect.same("veiled", x.cousin(0, 4), 1);
        expect.same("inked", x.cousin(0, 5), 1 << 29);
        expect.same("deep", x.deep(29), 9);
        x = coast(1, "coast 0006 by 0001; cousin x at 0000 wide 0002 high 0001 inked;");
        expect.same("wide", x.many(0), 6);
        expect.same("inked", x.cousin(0, 5), 0);
        x = coast(2, ABC + "rock 0 deep 0; odds 0;");
        expect.same("odds", x.many(4), 0);
        coast(0, ROCKS);
        coast(1, "cousin zaz at 0 wide 1 high 1;");
        coast(6, ABC + ABC.replace("a ", "c ").replace("b ", "d ").replace("ct", "at")
                + ABC.replace("a ", "e ").replace("b ", "f "));
        coast(1, "cousin x at 0 wide 5 high 4 tan 0 inked 0 1 2 3 4 19;");
        x = coast(0, "coast 1 by 1; odds 1; rock 0 deep 0;");
        expect.same("high", x.many(1), 1);
    }

    private void coastTokens() {
        coastFault(1, "|A");
        coastFault(1, "odds |?");
        coastFault(1, "odds 1|,");
        coastFault(1, "odds |-1;");
        coastFault(1, "|\tOdds 1;");
        coastFault(1, "|\u00E9;");
        coastFault(1, "|\u0000");
        coastFault(1, "odds |12345;");
        coastFault(1, "odds |00001;");
        coastFault(1, "odds 1 |00001");
        coastFault(1, "|123456");
        coastFault(1, "cousin |Xy at 0");
        coastFault(1, "odds 1;\r".replace("\r", "|\r"));
        coastFault(2, "|1234");
        coastFault(2, "odds 17".replace("17", "|x A"));
        coastFault(4, "odds |17 A");
        coastFault(1, "cousin x at 0 wide 1 high 1 inked |10000;");
    }

    private void coastGrammar() {
        coastFault(2, "|;");
        coastFault(2, "odds 1;|;");
        coastFault(2, "|sun ann 1;");
        coastFault(2, "|odd 1;");
        coastFault(2, "|oddss 1;");
        coastFault(2, "|by");
        coastFault(2, "|abcdefghijklmnopqrstuvwxyz");
        coastFault(2, "odds|");
        coastFault(2, "odds 1 |1;");
        coastFault(2, "odds 1|");
        coastFault(2, "odds 1  \n |");
        coastFault(2, "odds |;");
        coastFault(2, "odds 1|<");
        coastFault(2, "coast 5 |5;");
        coastFault(2, "coast 5 by |by;");
        coastFault(2, "coast 5 by 5|");
        coastFault(2, "rock 1 |1;");
        coastFault(2, "rock 1 deep|;");
        coastFault(2, "rock |deep 1;");
        coastFault(2, "cousin x |;");
        coastFault(2, "cousin |at 0 wide 1 high 1;");
        coastFault(2, "cousin x at |wide 1 high 1;");
        coastFault(2, "cousin x at 0 |high 1;");
        coastFault(2, "cousin x at 0 wide 1|;");
        coastFault(2, "cousin x at 0 wide 1 high |tan 1;");
        coastFault(2, "cousin x at 0 wide 1 high 1 tan |veiled;");
        coastFault(2, "cousin x at 0 wide 1 high 1 veiled |tan 1;");
        coastFault(2, "cousin x at 0 wide 1 high 1 veiled |veiled;");
        coastFault(2, "cousin x at 0 wide 1 high 1 inked 0 |veiled;");
        coastFault(2, "cousin x at 0 wide 1 high 1 tan 1 |tan 1;");
        coastFault(2, "cousin x at 0 wide 1 high 1 inked 0 |inked;");
        coastFault(2, "cousin x at 0 wide 1 high 1 |0;");
        coastFault(2, "cousin x at 0 wide 1 high 1 inked|");
        coastFault(2, "cousin |");
        // The same in a cousin behind another one.
        coastFault(2, ABC + "cousin x |wide 1 high 1;");
        coastFault(2, ABC + "cousin x at 0 |high 1;");
        coastFault(2, ABC + "cousin x at 0 wide 1 |;");
        coastFault(4, ABC + "cousin x at |20 wide 1 high 1;");
        coastFault(4, ABC + "cousin x at 0 wide |6 high 1;");
        coastFault(4, ABC + "cousin x at 0 wide 1 high |5;");
        coastFault(4, ABC + "cousin x at 0 wide 1 high 1 tan |10;");
    }

    private void coastNumbers() {
        coastFault(4, "coast |0 by 1;");
        coastFault(4, "coast |7 by 1;");
        coastFault(4, "coast 6 by |0;");
        coastFault(4, "coast 6 by |6;");
        coastFault(4, "coast |9999 by 1;");
        coastFault(4, "odds |17;");
        coastFault(4, "rock |20 deep 1;");
        coastFault(4, "coast 1 by 1; rock |1 deep 1;");
        coastFault(4, "rock 0 deep |10;");
        coastFault(4, "cousin x at |20 wide 1 high 1;");
        coastFault(4, "cousin x at 0 wide |0 high 1;");
        coastFault(4, "cousin x at 0 wide |6 high 1;");
        coastFault(4, "cousin x at 6 wide |5 high 1;");
        coastFault(4, "cousin x at 6 wide 4 high |4;");
        coastFault(4, "cousin x at 6 wide 4 high |0;");
        coastFault(4, "cousin x at 0 wide 1 high 1 tan |10;");
        coastFault(4, "cousin x at 0 wide 2 high 2 inked |2;");
        coastFault(4, "cousin x at 0 wide 2 high 2 inked 0 |20;");
        coastFault(4, "cousin x at 0 wide 2 high 2 inked |32;");
        coastFault(4, "cousin x at 0 wide 2 high 2 inked 6 |9999;");
        // Of one token the least kind: a seventh that is not of the patch, or inked.
        coastFault(4, "cousin x at 0 wide 5 high 2 inked 0 1 2 3 4 5 |10;");
        coastFault(5, "cousin x at 0 wide 5 high 2 inked 0 1 2 3 4 5 |0;");
    }

    private void coastTwiceAndTooMany() {
        coastFault(5, "coast 5 by 4; |coast 5 by 4;");
        coastFault(5, "odds 1; coast 5 by 4; |odds 1;");
        coastFault(5, "odds 1; |odds;");
        coastFault(5, "rock 0 deep 1; |coast 5 by 4;");
        coastFault(5, "cousin x at 0 wide 1 high 1; |coast 5 by 4;");
        coastFault(5, "rock 3 deep 1; rock |3 deep 1;");
        coastFault(5, "rock 3 deep 1; rock |3 A");
        coastFault(5, "cousin x at 0 wide 5 high 2 inked 1 2 |1;");
        coastFault(5, "cousin x at 0 wide 5 high 2 inked 3 |3;");
        coastFault(6, ROCKS + "|rock 15 deep 1;");
        coastFault(6, ROCKS + "odds 1;|rock 99;");
        coastFault(6, ABC + ABC.replace("a ", "c ").replace("b ", "d ").replace("ct", "at")
                + ABC.replace("a ", "e ").replace("b ", "f ") + "|cousin a at 0 wide 1 high 1;");
        coastFault(6, "cousin x at 0 wide 5 high 2 inked 0 1 2 3 4 5 |6 A;");
    }

    private void names() {
        coastFault(3, "cousin x at 0 wide 1 high 1; cousin |x at 0 wide 1 high 1;");
        coastFault(3, "cousin abcdefgh at 0 wide 1 high 1; cousin |abcdefgh A");
        coastFault(2, "cousin |abcdefghi at 0 wide 1 high 1;");
        coastFault(2, "cousin |1 at 0 wide 1 high 1;");
        coast(2, "cousin abcdefgh at 0 wide 1 high 1; cousin abcdefg at 0 wide 1 high 1;");
        for (String word : KEYWORDS.split(" ")) {
            coastFault(2, "cousin |" + word + " at 0 wide 1 high 1;");
            yearsFault(2, "veil |" + word + ";");
            String name = word.length() < 8 ? word + "z" : "z";
            coast(1, "cousin " + name + " at 0 wide 1 high 1;");
        }
        FreckleChart x = Texts.chart("coast 1 by 1;");
        x.born(0, 1, 1);
        expect.same("who is born has no name", Texts.years(x, "veil a;"), -1);
        expect.same("who is born has no name", x.fault(0), 3);
    }

    private void yearsTaken() {
        years(0, "");
        years(0, " \n ");
        years(1, "sun ann 1;");
        years(4, "rain9;sun ben 9;ink ann 19;sail ben 0 19 10;");
        years(3, "veil ann;bare ben;wash ann;");
        years(2, "any;stop;");
        years(2, "loop 99;any;end;");
        years(1, "loop 1;end;");
        years(3, "when shows ann 19;end;when tan ben<0;end;when veiled ann;end;");
        years(2, "when tan ann > 9;end;when tan ann = 0;end;");
        years(3, "loop 1;when veiled ann;loop 2;end;end;end;");
        years(4, "loop 1;loop 1;loop 1;end;loop 1;end;end;end;");
        years(30, "any;".repeat(30));
        years(30, "loop 1;end;".repeat(15) + "any;".repeat(15));
    }

    private void yearsTokens() {
        yearsFault(1, "|A");
        yearsFault(1, "rain |10000;");
        yearsFault(1, "when tan ann |! 1;");
        yearsFault(1, "sun |Ann 1;");
        yearsFault(1, "any|.");
        yearsFault(1, "|\u00FF");
    }

    private void yearsGrammar() {
        yearsFault(2, "|;");
        yearsFault(2, "|ann;");
        yearsFault(2, "|coast 5 by 4;");
        yearsFault(2, "|end;");
        yearsFault(2, "loop 1;end;|end;");
        yearsFault(2, "loop 1;end|");
        yearsFault(2, "loop 1;end |1;");
        yearsFault(2, "loop 1;|");
        yearsFault(2, "loop 1;any;  |");
        yearsFault(2, "loop 1;loop 1;end;|");
        yearsFault(2, "any|");
        yearsFault(2, "any |any;");
        yearsFault(2, "stop |1;");
        yearsFault(2, "rain|;");
        yearsFault(2, "rain |ann;");
        yearsFault(2, "rain 1 |1;");
        yearsFault(2, "sun |1;");
        yearsFault(2, "sun ann|;");
        yearsFault(2, "ink ann|;");
        yearsFault(2, "ink ann 1 |1;");
        yearsFault(2, "wash|;");
        yearsFault(2, "veil ann |ann;");
        yearsFault(2, "sail ann 0 1|;");
        yearsFault(2, "sail ann 0 1 1 |1;");
        yearsFault(2, "loop|;");
        yearsFault(2, "loop 1 |any;");
        yearsFault(2, "when|;");
        yearsFault(2, "when |ann;");
        yearsFault(2, "when shows ann|;");
        yearsFault(2, "when tan ann |1;");
        yearsFault(2, "when tan ann |; 1;");
        yearsFault(2, "when tan ann < |;");
        yearsFault(2, "when tan ann < |= 1;");
        yearsFault(2, "when veiled ann |1;");
        yearsFault(2, "veil |abcdefghi;");
    }

    private void yearsNumbers() {
        yearsFault(3, "sun |cyd 1;");
        yearsFault(3, "veil |an;");
        yearsFault(3, "bare |anne;");
        yearsFault(3, "ink |x 1;");
        yearsFault(3, "wash |x;");
        yearsFault(3, "sail |x;");
        yearsFault(3, "when shows |x 1;");
        yearsFault(3, "when tan |x < 1;");
        yearsFault(3, "when veiled |x;");
        yearsFault(4, "sun ann |0;");
        yearsFault(4, "sun ann |10;");
        yearsFault(4, "rain |0;");
        yearsFault(4, "rain |10;");
        yearsFault(4, "ink ann |20;");
        yearsFault(4, "sail ann |20 0 1;");
        yearsFault(4, "sail ann 0 |20 1;");
        yearsFault(4, "sail ann 0 0 |0;");
        yearsFault(4, "sail ann 0 0 |11;");
        yearsFault(4, "when shows ann |20;");
        yearsFault(4, "when tan ann < |10;");
        yearsFault(4, "loop |0;");
        yearsFault(4, "loop |100;");
    }

    private void yearsTooMany() {
        yearsFault(6, "any;".repeat(30) + "|any;");
        yearsFault(6, "any;".repeat(29) + "loop 1;|when;end;");
        yearsFault(2, "any;".repeat(30) + "|ann;");
        yearsFault(2, "any;".repeat(30) + "|end;");
        yearsFault(2, "any;".repeat(29) + "loop 1;|");
        yearsFault(7, "loop 1;when veiled ann;loop 1;|loop 1;");
        yearsFault(7, "loop 1;loop 1;loop 1;end;loop 1;|when A");
        // Of one token the least kind.
        yearsFault(6, "any;".repeat(27) + "loop 1;loop 1;loop 1;|loop 1;");
    }

    /** What is behind the first n bytes counts for nothing, and is gone. */
    private void tapes() {
        FreckleChart x = new FreckleChart();
        Texts.feed(x, "odds 3;odds 4; coast 9");
        expect.same("coast(7)", x.coast(7), 0);
        expect.same("odds", x.many(4), 3);
        expect.same("the tape is empty", x.feed(0, 0, 0, 0, 0), 20);
        expect.same("coast(1)", x.coast(1), -1);
        expect.same("its fault", x.fault(0), 1);
        expect.same("the tape is empty", x.feed(0, 0, 0, 0, 0), 20);
        expect.same("years(21)", x.years(21), -1);
        expect.same("STATUS", x.status(), 5);
        expect.same("the tape is as it was", x.feed(0, 0, 0, 0, 0), 40);
        expect.same("years(2)", x.years(2), -1);
        expect.same("STATUS", x.status(), 10);
        expect.same("the tape is empty", x.feed(0, 0, 0, 0, 0), 20);
        expect.same("coast(0)", x.coast(0), 0);
        // A word goes no farther than the n bytes.
        Texts.feed(x, "rock 1 deepest");
        expect.same("coast(11)", x.coast(11), -1);
        expect.same("its fault", x.fault(0), 2);
        expect.same("its place", x.fault(1), 11);
    }
}
