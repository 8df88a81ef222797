import java.io.IOException;
import java.util.ArrayList;
import java.util.Arrays;
import java.util.List;

/** ==== 2: the TAPE, its TOKENS, the WORDING and its FAULTS. */
public final class Terms2EdgesTest {
    private static final String IN = "Terms 2";
    private static final String WHEN = Edges.ABC + "share s of a:1 to b when ";
    private static final int MOST_SIGNS = 1500;

    private Terms2EdgesTest() {
    }

    public static void main(String[] args) throws IOException, ReflectiveOperationException {
        Edges.runAll(Terms2EdgesTest.class);
    }

    private static String when(String condition) {
        return WHEN + condition + ";";
    }

    /** What b pays of 100 of a, with 7 LOSSES of a and one of c on DAY 3, cause 6. */
    private static int paid(String wording) {
        CoverHouses x = Edges.told(wording, 3);
        x.loss(0, 72, 0, 6, 0, 94);
        for (int i = 0; i < 6; i++) {
            x.loss(0, 73, 0, 6, 0, 1);
        }
        x.loss(2, 74, 0, 6, 0, 50);
        return x.gross(0, 1, 1);
    }

    private static void pays(String condition, boolean yes) {
        Edges.due(condition, paid(Edges.ABC + "share s of a:1000 to b when " + condition + ";"), yes ? 100 : 0);
    }

    // ---- the TAPE

    @Says(in = IN, text = "THE WORDING. The TAPE has at most 1,500 signs")
    static void aWordingOf1500SignsIsRead() {
        String text = "house" + Edges.repeated(" ", MOST_SIGNS - 7) + "a;";
        CoverHouses x = new CoverHouses();
        Edges.due("signs", Signs.feed(x, text), MOST_SIGNS);
        Edges.due("its FAULT", x.wording(), 0);
        Edges.due("HOUSES", x.count(0), 1);
    }

    @Says(in = IN, text = "The TAPE has at most 1,500 signs")
    static void the1501stSignIsLeftOut() {
        String text = "house" + Edges.repeated(" ", MOST_SIGNS - 6) + "a;";
        CoverHouses x = new CoverHouses();
        Edges.due("signs", Signs.feed(x, text), MOST_SIGNS);
        Edges.due("the end is the 1501st", x.wording(), 1 + 16 * MOST_SIGNS);
        Edges.due("HOUSES", x.count(0), 0);
    }

    @Says(in = IN, text = "signs, 10 and 32 .. 126;")
    static void ofAllBytes10And32To126AreSigns() {
        CoverHouses x = new CoverHouses();
        int there = 0;
        for (int sign = 0; sign <= 255; sign++) {
            there += sign == 10 || sign >= 32 && sign <= 126 ? 1 : 0;
            Edges.due("sign " + sign, x.feed(sign, 0L, 0L), there);
        }
        Edges.due("together", x.count(9), 96);
    }

    @Says(in = IN, text = "what reads it takes it: it is empty then.")
    static void theTapeIsEmptyBehindAWording() {
        CoverHouses x = new CoverHouses();
        Signs.feed(x, "house a;");
        Edges.due("signs", x.count(9), 8);
        Edges.due("read", x.wording(), 0);
        Edges.due("empty", x.count(9), 0);
        Edges.due("from its begin again", Signs.feed(x, "house b;"), 8);
        Edges.due("nothing of the one ahead", x.wording(), 0);
        Edges.due("HOUSES", x.count(0), 1);
    }

    @Says(in = IN, text = "what reads it takes it: it is empty then.")
    static void theTapeIsEmptyBehindAFaultToo() {
        CoverHouses x = new CoverHouses();
        Edges.due("a FAULT at the begin", Signs.wording(x, "! house a;"), 1);
        Edges.due("empty", x.count(9), 0);
        Edges.due("the rest is not read later", x.wording(), 0);
        Edges.due("HOUSES", x.count(0), 0);
        Signs.feed(x, Edges.repeated(";", MOST_SIGNS));
        Edges.due("a full one", x.wording(), 1);
        Edges.due("empty, too", x.count(9), 0);
    }

    // ---- TOKENS

    @Says(in = IN, text = "TOKENS, each as long as can be")
    static void tokensAreAsLongAsCanBe() {
        Edges.faultAtBar(1, "|housea;");
        Edges.faultAtBar(1, "house a;|houseb;");
        Edges.faultAtBar(1, "house a;event 1 |0 hours 1 miles 1;");
        Edges.faultAtBar(4, "house a;event |10 hours 1 miles 1;");
        Edges.faultAtBar(1, Edges.ABC + "share s |ofa:1 to b;");
        Edges.due("hit and hits are other WORDS", Edges.told("house hits;house hi;house no;house nots;").count(0), 4);
    }

    @Says(in = IN, text = "blanks (10, 32) between where one likes:")
    static void blanksOfBothKindsStandAnywhereBetween() {
        String[] tokens = {"house", "a", ";", "house", "b", ";", "event", "7", "hours", "5", "miles", "5", ";", "layer",
            "l", "of", "a", "own", ":", "100", "over", "0", "1000", "to", "b", "again", "1", "at", "5", "when", "not",
            "(", "1", "<", "0", "+", "0", "-", "0", "=", "0", ")", ";"};
        String blanks = " \n \n\n  ";
        for (int i = 0; i <= blanks.length(); i++) {
            String between = i == 0 ? " " : blanks.substring(0, i);
            String text = between + String.join(between, tokens) + between;
            // A TEST has one < or =, so that the second one is the FAULT.
            int place = text.indexOf('=');
            Edges.due("FAULT at =", Signs.wording(new CoverHouses(), text), 1 + 16 * place);
            Edges.stands(text.replace("=", "+"));
        }
    }

    @Says(in = IN, text = "blanks (10, 32) between where one likes:")
    static void noBlanksAreNeededButBetweenTwoWordsOrTwoNumbers() {
        Edges.stands("house a;house b;event 7hours 5miles 5;layer l of a own:100over 0 1000to b again 1at 5when not("
                + "1<0+0-0);share q of b:1to a when(1)or(0)and not 1;");
    }

    @Says(in = IN, text = "blanks (10, 32) between where one likes:")
    static void noOtherSignIsABlank() {
        for (char sign : new char[] {'!', '_', '.', ',', '~', '\'', '/', '@', '`', '{', '[', '*', '>', '#'}) {
            Edges.faultAtBar(1, "house a;|" + sign + "house b;");
            Edges.faultAtBar(1, "house |" + sign + "b;");
        }
    }

    @Says(in = IN, text = "WORDS (letters a .. z, 8 at most)")
    static void aWordOf8LettersIsOneOf9IsNone() {
        Edges.due("8", Edges.told("house abcdefgh;house zzzzzzzz;house abcdefgi;").count(0), 3);
        Edges.faultAtBar(1, "house |abcdefghi;");
        Edges.faultAtBar(1, "house |zzzzzzzzz;");
        Edges.faultAtBar(1, "house |" + Edges.repeated("a", 1494));
        Edges.faultAtBar(3, "house abcdefgh;house |abcdefgh;");
    }

    @Says(in = IN, text = "WORDS (letters a .. z, 8 at most)")
    static void lettersAreAToZ() {
        Edges.due("all letters", Edges.told("house abcdefgh;house ijklmnop;house qrstuvwx;house yz;").count(0), 4);
        for (char sign : new char[] {'`', '{', 'A', 'Z', '@', '['}) {
            Edges.faultAtBar(1, "house a|" + sign + ";");
            Edges.faultAtBar(1, "house |" + sign + "a;");
        }
    }

    @Says(in = IN, text = "NUMBERS (1 to 6 digits")
    static void aNumberOf6DigitsIsOneOf7IsNone() {
        Edges.stands(Edges.ABC + "layer l of a:999999 over 000000 001000 to b again 000009 at 999999 when 000001;");
        Edges.stands(Edges.ABC + "layer l of a:1 over 0 1 to b again 0 at 0 when 0;");
        Edges.faultAtBar(1, Edges.ABC + "layer l of a:|0000001 over 0 1 to b;");
        Edges.faultAtBar(1, Edges.ABC + "layer l of a:|1000000 over 0 1 to b;");
        Edges.faultAtBar(1, WHEN + "|0000000;");
        Edges.faultAtBar(1, WHEN + "|" + Edges.repeated("9", 1400));
    }

    @Says(in = IN, text = "NUMBERS (1 to 6 digits")
    static void digitsAre0To9() {
        CoverHouses x = Edges.told(Edges.ABC + "layer l of a:123456 over 78 90 to b;");
        Edges.due("the limit", x.left(0), 123456);
        Edges.faultAtBar(1, WHEN + "|/1;");
        Edges.faultAtBar(1, WHEN + "1|:;");
        Edges.faultAtBar(1, WHEN + "1|.5;");
    }

    @Says(in = IN, text = "a letter may stand right behind)")
    static void aLetterMayStandRightBehindANumber() {
        Edges.stands("house a;house b;event 0hours 5miles 5;share s of a:1000to b when 1and 1or 0;");
        Edges.stands("house a;house b;layer l of a:999999over 999999 1000to b again 9at 999999when 1;");
    }

    @Says(in = IN, text = "a letter may stand right behind)")
    static void aDigitRightBehindALetterIsATokenOfItsOwn() {
        Edges.faultAtBar(1, "house a|1;");
        Edges.stands("house a;house b;event 0 hours5 miles5;share s of a:1 to b when1;");
        Edges.faultAtBar(4, "event|8 hours 1 miles 1;");
    }

    @Says(in = IN, text = "the signs ( ) < = + - the colon and the semicolon.")
    static void eachOfTheEightSignsIsAToken() {
        Edges.stands(when("(1)<(1)"));
        Edges.stands(when("1=1+1-1"));
        Edges.stands(when("((1))"));
        for (char sign : "()<=+-:;".toCharArray()) {
            Edges.faultAtBar(1, "house |" + sign + sign);
        }
        // Each is a token by itself, however many stand together.
        Edges.faultAtBar(1, WHEN + "1<|=2;");
        Edges.faultAtBar(1, WHEN + "1+|+2;");
        Edges.faultAtBar(1, "house a;|;");
    }

    @Says(in = IN, text = "All else (a longer WORD or NUMBER, too, at its first sign) is none.")
    static void whatIsNoTokenIsAFaultAtItsFirstSign() {
        Edges.faultAtBar(1, "house |abcdefghij;");
        Edges.faultAtBar(1, "event |12345678 hours 1 miles 1;");
        Edges.faultAtBar(1, "  |!!;");
        Edges.faultAtBar(1, "house a ;|? house b;");
        Edges.faultAtBar(1, "|~");
        Edges.faultAtBar(1, "house a;|abcdefghi");
    }

    // ---- the WORDING

    @Says(in = IN, text = "WORDING: any number of")
    static void noStatementAtAllIsAWording() {
        Edges.stands("");
        Edges.stands(" ");
        Edges.stands("\n");
        CoverHouses x = Edges.told("house a;house b;share s of a:1 to b;");
        Edges.due("an empty one comes in force", x.wording(), 0);
        Edges.due("HOUSES", x.count(0), 0);
        Edges.due("treaties", x.count(1), 0);
    }

    @Says(in = IN, text = "WORDING: any number of")
    static void statementsStandInAnyOrder() {
        CoverHouses x = Edges.told("event 3 hours 1 miles 1;house a;event 2 hours 1 miles 1;house b;share s of b:1 to a;"
                + "house c;layer l of c:1 over 0 1 to a;event 0 hours 1 miles 1;share t of a:1 to c;");
        Edges.due("HOUSES", x.count(0), 3);
        Edges.due("treaties", x.count(1), 3);
    }

    @Says(in = IN, text = "house NAME ;")
    static void aHouseIsAWordANameAndASemicolon() {
        Edges.stands("house a;");
        Edges.faultAtBar(1, "house |");
        Edges.faultAtBar(1, "house |;");
        Edges.faultAtBar(1, "house a|");
        Edges.faultAtBar(1, "house a |b;");
        Edges.faultAtBar(1, "house a|:");
        Edges.faultAtBar(1, "|a;");
        Edges.faultAtBar(1, "house |1;");
    }

    @Says(in = IN, text = "event N hours N miles N ;")
    static void anEventIsItsTokensInTheirOrder() {
        Edges.stands("event 0 hours 1 miles 0;");
        Edges.faultAtBar(1, "event |");
        Edges.faultAtBar(1, "event |hours 1 miles 1;");
        Edges.faultAtBar(1, "event 0 |1 hours 1 miles 1;");
        Edges.faultAtBar(1, "event 0 |miles 1 hours 1;");
        Edges.faultAtBar(1, "event 0 hours |miles 1;");
        Edges.faultAtBar(1, "event 0 hours 1 |;");
        Edges.faultAtBar(1, "event 0 hours 1 miles |;");
        Edges.faultAtBar(1, "event 0 hours 1 miles 1|");
        Edges.faultAtBar(1, "event 0 hours 1 miles 1|:");
        Edges.faultAtBar(1, "event |a hours 1 miles 1;");
    }

    @Says(in = IN, text = "share NAME of HOUSE [ own ] : PART { and PART } [ when E ] ;")
    static void aShareIsItsTokensInTheirOrder() {
        Edges.stands(Edges.ABC + "share s of a:1 to b;");
        Edges.stands(Edges.ABC + "share s of a own:1 to b and 1 to c when 1;");
        Edges.faultAtBar(1, Edges.ABC + "share |");
        Edges.faultAtBar(1, Edges.ABC + "share |of a:1 to b;");
        Edges.faultAtBar(1, Edges.ABC + "share s |a:1 to b;");
        Edges.faultAtBar(1, Edges.ABC + "share s of |:1 to b;");
        Edges.faultAtBar(1, Edges.ABC + "share s of a |1 to b;");
        Edges.faultAtBar(1, Edges.ABC + "share s of a own |1 to b;");
        Edges.faultAtBar(1, Edges.ABC + "share s of a own |own:1 to b;");
        Edges.faultAtBar(1, Edges.ABC + "share s |own of a:1 to b;");
        Edges.faultAtBar(1, Edges.ABC + "share s of a:|;");
        Edges.faultAtBar(1, Edges.ABC + "share s of a:1 to b and |;");
        Edges.faultAtBar(1, Edges.ABC + "share s of a:1 to b |1 to c;");
        Edges.faultAtBar(1, Edges.ABC + "share s of a:1 to b when |;");
        Edges.faultAtBar(1, Edges.ABC + "share s of a:1 to b when 1 |when 1;");
        Edges.faultAtBar(1, Edges.ABC + "share s of a:1 to b|");
    }

    @Says(in = IN, text = "share NAME of HOUSE [ own ] : PART { and PART } [ when E ] ;")
    static void aShareHasNoOverAndNoAgain() {
        Edges.faultAtBar(1, Edges.ABC + "share s of a:1 |over 1 1 to b;");
        Edges.faultAtBar(1, Edges.ABC + "share s of a:1 to b |again 1 at 1;");
    }

    @Says(in = IN, text = "layer NAME of HOUSE [ own ] : N over N PART { and PART } [ again N at N ] [ when E ] ;")
    static void aLayerIsItsTokensInTheirOrder() {
        Edges.stands(Edges.ABC + "layer l of a:1 over 0 1 to b;");
        Edges.stands(Edges.ABC + "layer l of a own:1 over 0 1 to b and 1 to c again 1 at 1 when 1;");
        Edges.stands(Edges.ABC + "layer l of a:1 over 0 1 to b when 1;");
        Edges.stands(Edges.ABC + "layer l of a:1 over 0 1 to b again 1 at 1;");
        Edges.faultAtBar(1, Edges.ABC + "layer l of a:|over 0 1 to b;");
        Edges.faultAtBar(1, Edges.ABC + "layer l of a:1 |to b;");
        Edges.faultAtBar(1, Edges.ABC + "layer l of a:1 over |to b;");
        Edges.faultAtBar(1, Edges.ABC + "layer l of a:1 over 0 |to b;");
        Edges.faultAtBar(1, Edges.ABC + "layer l of a:1 over 0 1 to b again |at 1;");
        Edges.faultAtBar(1, Edges.ABC + "layer l of a:1 over 0 1 to b again 1 |1;");
        Edges.faultAtBar(1, Edges.ABC + "layer l of a:1 over 0 1 to b again 1 at |;");
        Edges.faultAtBar(1, Edges.ABC + "layer l of a:1 over 0 1 to b again 1|;");
        Edges.faultAtBar(1, Edges.ABC + "layer l of a:1 over 0 1 to b when 1 |again 1 at 1;");
        Edges.faultAtBar(1, Edges.ABC + "layer l of a:1 over 0 1 to b again 1 at 1 |again 1 at 1;");
        Edges.faultAtBar(1, Edges.ABC + "layer l of a:1 over 0 1 to b again 1 at 1 |and 1 to c;");
        Edges.faultAtBar(1, Edges.ABC + "layer l of a:1 over 0 1 to b|");
    }

    @Says(in = IN, text = "PART: N to HOUSE.")
    static void aPartIsANumberToAHouse() {
        Edges.faultAtBar(1, Edges.ABC + "share s of a:|to b;");
        Edges.faultAtBar(1, Edges.ABC + "share s of a:1 |b;");
        Edges.faultAtBar(1, Edges.ABC + "share s of a:1 to |1;");
        Edges.faultAtBar(1, Edges.ABC + "share s of a:1 to |to b;");
        Edges.faultAtBar(1, Edges.ABC + "share s of a:1 to |;");
    }

    @Says(in = IN, text = "E: TEST { and TEST or or TEST }.")
    static void anEHasAnyNumberOfTests() {
        pays("1", true);
        pays("0", false);
        pays("0" + Edges.repeated(" or 0", 200) + " or 1", true);
        pays("1" + Edges.repeated(" and 1", 200) + " and 0", false);
        Edges.faultAtBar(1, WHEN + "|and 1;");
        Edges.faultAtBar(1, WHEN + "1 or |;");
        Edges.faultAtBar(1, WHEN + "1 or |and 1;");
        Edges.faultAtBar(1, WHEN + "1 |1;");
    }

    @Says(in = IN, text = "TEST: SUM [ < SUM or = SUM ].")
    static void aTestComparesOnceAtMost() {
        pays("1<2", true);
        pays("2<2", false);
        pays("2=2", true);
        pays("2=3", false);
        pays("3", true);
        Edges.faultAtBar(1, WHEN + "1<2|<3;");
        Edges.faultAtBar(1, WHEN + "1=1|=1;");
        Edges.faultAtBar(1, WHEN + "1<2|=1;");
        Edges.faultAtBar(1, WHEN + "|<1;");
        Edges.faultAtBar(1, WHEN + "1<|;");
        pays("(1<2)<3", true);
    }

    @Says(in = IN, text = "SUM: VALUE { + or - VALUE }.")
    static void aSumHasAnyNumberOfValuesFromTheLeft() {
        pays("10-3-2=5", true);
        pays("10-3+2=9", true);
        pays("1" + Edges.repeated("+1", 300) + "=301", true);
        pays("300" + Edges.repeated("-1", 300) + "=0", true);
        Edges.faultAtBar(1, WHEN + "|-1;");
        Edges.faultAtBar(1, WHEN + "|+1;");
        Edges.faultAtBar(1, WHEN + "1+|;");
        Edges.faultAtBar(1, WHEN + "1-|-1;");
    }

    @Says(in = IN, text = "SUM: VALUE { + or - VALUE }.")
    static void sumsAtTheirLargest() {
        String many = "999999" + Edges.repeated("+999999", 90);
        pays(many + "<" + many + "+1", true);
        pays(many + "=" + many, true);
        pays("0" + Edges.repeated("-999999", 90) + "<0", true);
        pays("0" + Edges.repeated("-999999", 90) + Edges.repeated("+999999", 90) + "=0", true);
    }

    @Says(in = IN, text = "VALUE: N, cause, day, losses, direct, hit, not VALUE, ( E )")
    static void allKindsOfValues() {
        pays("000000=0", true);
        pays("999999", true);
        pays("cause=6", true);
        pays("day=3", true);
        pays("losses=8", true);
        pays("direct=100", true);
        pays("hit=2", true);
        pays("not hit=0", true);
        pays("(hit)=2", true);
        for (String other : new String[] {"hours", "miles", "house", "own", "a", "s", "gross", "over", "!"}) {
            Edges.faultAtBar(1, WHEN + "|" + other + ";");
        }
    }

    @Says(in = IN, text = "not VALUE, ( E )")
    static void notTakesOneValueAlone() {
        pays("not 1+1", true);
        pays("not 0=0", false);
        pays("not(0=1)", true);
        pays("not 0 and 0", false);
        Edges.faultAtBar(1, WHEN + "not |;");
        Edges.faultAtBar(1, WHEN + "1 |not 1;");
        Edges.faultAtBar(1, WHEN + "(|);");
        Edges.faultAtBar(1, WHEN + "(1|;");
        Edges.faultAtBar(1, WHEN + "1|);");
    }

    @Says(in = IN, text = "4 of not and ( ) within one another.")
    static void threeAroundAValueStandAFourthDoesNot() {
        for (String value : new String[] {"1", "cause", "day", "losses", "direct", "hit"}) {
            Edges.stands(when("not not not " + value));
            Edges.stands(when("(((" + value + ")))"));
            Edges.stands(when("not(not " + value + ")"));
            Edges.faultAtBar(5, WHEN + "not not not not |" + value + ";");
            Edges.faultAtBar(5, WHEN + "((((|" + value + "))));");
            Edges.faultAtBar(5, WHEN + "not(not(|" + value + "));");
        }
    }

    @Says(in = IN, text = "4 of not and ( ) within one another.")
    static void thoseSideBySideAreNotWithinOneAnother() {
        Edges.stands(when("(((1)))+(((1)))<not not not 1-not not not 1 or (((1)))"));
        Edges.stands(when("((1)+(1)+(not 1))"));
        Edges.faultAtBar(5, WHEN + "(((1)+((|1))));");
    }

    @Says(in = IN, text = "(What stands in [ ] may be left out, { } are for \"any more\";")
    static void optionsMayBeLeftOutAlone() {
        String[] owns = {"", " own"};
        String[] agains = {"", " again 1 at 1"};
        String[] whens = {"", " when 1"};
        for (String own : owns) {
            for (String then : whens) {
                Edges.stands(Edges.ABC + "share s of a" + own + ":1 to b" + then + ";");
                for (String again : agains) {
                    Edges.stands(Edges.ABC + "layer l of a" + own + ":1 over 1 1 to b" + again + then + ";");
                }
            }
        }
    }

    @Says(in = IN, text = "and, or in E go from the left alike.)")
    static void andAndOrGoFromTheLeftAlike() {
        pays("1 or 1 and 0", false);
        pays("0 and 0 or 1", true);
        pays("0 and 1 or 1 and 1", true);
        pays("1 or 0 and 0 or 0", false);
        pays("1 or (1 and 0)", true);
    }

    @Says(in = IN, text = "HOUSE: the NAME of one that was told ahead.")
    static void aHouseMustBeToldAheadOfItsTreaty() {
        Edges.stands("house a;house b;share s of a:1 to b;");
        Edges.faultAtBar(2, "house b;share s of |a:1 to b;house a;");
        Edges.faultAtBar(2, "house a;share s of a:1 to |b;house b;");
        Edges.faultAtBar(2, "house a;house b;share s of a:1 to b;share t of |s:1 to b;");
        Edges.faultAtBar(2, "house a;house b;share s of a:1 to b and 1 to |s;");
    }

    @Says(in = IN, text = "HOUSE: the NAME of one that was told ahead.")
    static void housesOfTheWordingAheadAreNotTold() {
        CoverHouses x = Edges.told("house a;house b;");
        Edges.due("a FAULT", Signs.wording(x, "share s of a:1 to b;"), 2 + 16 * 11);
        Edges.due("HOUSES", x.count(0), 2);
        Edges.due("the same NAMES again", Signs.wording(x, "house b;house a;"), 0);
    }

    // ---- numbers of the WORDING

    @Says(in = IN, text = "event: a cause 0 to 7")
    static void anEventsCauseIs0To7() {
        Edges.stands("event 0 hours 1 miles 1;");
        Edges.stands("event 7 hours 1 miles 1;");
        Edges.faultAtBar(4, "event |8 hours 1 miles 1;");
        Edges.faultAtBar(4, "event |999999 hours 1 miles 1;");
    }

    @Says(in = IN, text = "each told once")
    static void anEventsCauseIsToldOnce() {
        StringBuilder text = new StringBuilder();
        for (int cause = 7; cause >= 0; cause--) {
            text.append("event ").append(cause).append(" hours 1 miles 1;");
        }
        Edges.stands(text.toString());
        for (int cause = 0; cause <= 7; cause++) {
            Edges.faultAtBar(6, text + "event |" + cause + " hours 1 miles 1;");
        }
        CoverHouses x = Edges.told(text.toString());
        Edges.due("in the next wording it may be told again", Signs.wording(x, text.toString()), 0);
    }

    @Says(in = IN, text = "each told once")
    static void anEventsCauseIsToldOnceInEachOfManyWordings() {
        CoverHouses x = new CoverHouses();
        for (int i = 0; i < 4; i++) {
            String text = "event 0 hours 1 miles 1;event 7 hours 1 miles 1;";
            Edges.due("wording " + i, Signs.wording(x, text), 0);
            Edges.due("with a FAULT", Signs.wording(x, text + "event 7 hours"), 6 + 16 * (text.length() + 6));
        }
    }

    @Says(in = IN, text = "hours 1 to 999")
    static void hoursAre1To999() {
        Edges.stands("event 0 hours 1 miles 1;");
        Edges.stands("event 0 hours 999 miles 1;");
        Edges.faultAtBar(4, "event 0 hours |0 miles 1;");
        Edges.faultAtBar(4, "event 0 hours |1000 miles 1;");
    }

    @Says(in = IN, text = "miles 0 to 999;")
    static void milesAre0To999() {
        Edges.stands("event 0 hours 1 miles 0;");
        Edges.stands("event 0 hours 1 miles 999;");
        Edges.faultAtBar(4, "event 0 hours 1 miles |1000;");
    }

    @Says(in = IN, text = "a cause that is not told has 168 hours and 999 miles.")
    static void aCauseThatIsNotToldHas168HoursAnd999Miles() {
        CoverHouses x = Edges.told("house a;event 0 hours 1 miles 0;", 50);
        for (int cause = 1; cause <= 7; cause++) {
            x.loss(0, 0, 0, cause, 0, 1);
            x.loss(0, 167, 999, cause, 0, 1);
        }
        Edges.due("167 hours and 999 miles away", x.events(), 7);
        x.loss(0, 168, 0, 7, 0, 1);
        Edges.due("168 hours away", x.events(), 8);
        x.loss(0, 0, 0, 0, 0, 1);
        x.loss(0, 1, 0, 0, 0, 1);
        Edges.due("one that is told", x.events(), 10);
    }

    @Says(in = IN, text = "N of a PART: 1 to 1000 (thousandths)")
    static void aPartIs1To1000Thousandths() {
        CoverHouses x = Edges.told(Edges.ABC + "share s of a:1 to b;share t of b:1000 to c;");
        x.loss(0, 0, 0, 0, 0, 2000);
        Edges.due("a thousandth", x.owed(1, 0), 2);
        Edges.due("all", x.owed(2, 1), 2);
        Edges.faultAtBar(4, Edges.ABC + "share s of a:|0 to b;");
        Edges.faultAtBar(4, Edges.ABC + "share s of a:|1001 to b;");
        Edges.faultAtBar(4, Edges.ABC + "layer l of a:1 over 1 |0 to b;");
        Edges.faultAtBar(4, Edges.ABC + "layer l of a:1 over 1 |1001 to b;");
        Edges.faultAtBar(4, Edges.ABC + "share s of a:1 to b and |0 to c;");
    }

    @Says(in = IN, text = "to a HOUSE that isn't the treaty's own")
    static void noPartIsToTheTreatysOwnHouse() {
        Edges.faultAtBar(6, Edges.ABC + "share s of a:1 to |a;");
        Edges.faultAtBar(6, Edges.ABC + "share s of c own:1 to a and 1 to b and 1 to |c;");
        Edges.faultAtBar(6, Edges.ABC + "layer l of b:1 over 1 1 to |b;");
    }

    @Says(in = IN, text = "each once in it")
    static void eachHouseIsOnceInATreaty() {
        Edges.faultAtBar(6, Edges.ABC + "share s of a:1 to b and 1 to |b;");
        Edges.faultAtBar(6, Edges.ABC + "share s of a:1 to b and 1 to c and 1 to |b;");
        Edges.stands(Edges.ABC + "share s of a:1 to b and 1 to c;share t of a:1 to c and 1 to b;");
    }

    @Says(in = IN, text = "each once in it")
    static void allElevenOthersMayBeInATreaty() {
        StringBuilder text = new StringBuilder(Edges.houses(12) + "share s of ha:90 to hb");
        for (int i = 2; i < 12; i++) {
            text.append(" and 91 to h").append((char) ('a' + i));
        }
        CoverHouses x = Edges.told(text + ";");
        x.loss(0, 0, 0, 0, 0, 1000);
        Edges.due("the first", x.owed(1, 0), 90);
        Edges.due("the last", x.owed(11, 0), 91);
        Edges.due("all is shared", x.bears(0), 0);
        for (int i = 0; i < 12; i++) {
            Edges.faultAtBar(4, text + " and |1 to h" + (char) ('a' + i) + ";");
        }
    }

    @Says(in = IN, text = "1000 together at most.")
    static void partsAre1000TogetherAtMost() {
        Edges.stands(Edges.ABC + "share s of a:999 to b and 1 to c;");
        Edges.faultAtBar(4, Edges.ABC + "share s of a:999 to b and |2 to c;");
        Edges.faultAtBar(4, Edges.ABC + "share s of a:1000 to b and |1 to c;");
        Edges.faultAtBar(4, Edges.ABC + "layer l of a:1 over 1 1 to b and |1000 to c;");
        Edges.stands(Edges.ABC + "share s of a:1000 to b;share t of a:1000 to b;");
    }

    @Says(in = IN, text = "layer: the first N (its limit) 1 to 999999")
    static void aLimitIs1To999999() {
        Edges.due("1", Edges.told(Edges.ABC + "layer l of a:1 over 0 1 to b;").left(0), 1);
        Edges.due("999999", Edges.told(Edges.ABC + "layer l of a:999999 over 0 1 to b;").left(0), 999999);
        Edges.faultAtBar(4, Edges.ABC + "layer l of a:|0 over 0 1 to b;");
        Edges.faultAtBar(4, Edges.ABC + "layer l of a:|000000 over 0 1 to b;");
        Edges.faultAtBar(1, Edges.ABC + "layer l of a:|1000000 over 0 1 to b;");
    }

    @Says(in = IN, text = "N of over 0 to 999999")
    static void overIs0To999999() {
        CoverHouses x = Edges.told(Edges.ABC + "layer l of a:10 over 0 1000 to b;layer m of a:999999 over 999999 1000 to c;");
        for (int i = 0; i < 10; i++) {
            x.loss(0, 0, 0, 0, 0, 100000);
        }
        x.loss(0, 0, 0, 0, 0, 10);
        Edges.due("over 0", x.treaty(0, 0, 1), 10);
        Edges.due("over 999999", x.treaty(0, 1, 1), 1);
        Edges.faultAtBar(1, Edges.ABC + "layer l of a:1 over |1000000 1 to b;");
    }

    @Says(in = IN, text = "again 0 to 9")
    static void againIs0To9() {
        Edges.due("0", Edges.told(Edges.ABC + "layer l of a:7 over 0 1 to b again 0 at 0;").left(0), 7);
        Edges.due("9", Edges.told(Edges.ABC + "layer l of a:999999 over 0 1 to b again 9 at 0;").left(0), 9999990);
        Edges.faultAtBar(4, Edges.ABC + "layer l of a:1 over 0 1 to b again |10 at 0;");
    }

    @Says(in = IN, text = "at 0 to 999999 (its premium; both 0 without them).")
    static void aPremiumIs0To999999() {
        for (int premium : new int[] {0, 1, 999999}) {
            CoverHouses x = Edges.told(Edges.ABC + "layer l of a:5 over 0 1000 to b again 1 at " + premium + ";");
            x.loss(0, 0, 0, 0, 0, 5);
            Edges.due("the premium", x.treaty(0, 0, 4), premium);
        }
        Edges.faultAtBar(1, Edges.ABC + "layer l of a:1 over 0 1 to b again 1 at |1000000;");
    }

    @Says(in = IN, text = "(its premium; both 0 without them).")
    static void withoutThemAgainAndPremiumAre0() {
        CoverHouses x = Edges.told(Edges.ABC + "layer k of a:5 over 0 1000 to b again 9 at 9;");
        Edges.due("another wording", Signs.wording(x, Edges.ABC + "layer l of a:5 over 0 1000 to b;"), 0);
        x.loss(0, 0, 0, 0, 0, 9);
        Edges.due("nothing is left", x.left(0), 0);
        Edges.due("nothing is REINSTATED", x.treaty(0, 0, 3), 0);
        Edges.due("no premium", x.treaty(0, 0, 4), 0);
    }

    // ---- NAMES

    @Says(in = IN, text = "NAMES are other WORDS than all that stand above")
    static void noKeywordIsAName() {
        for (String word : PlainHouses.KEYWORDS) {
            Edges.faultAtBar(1, "house |" + word + ";");
            Edges.faultAtBar(1, Edges.ABC + "share |" + word + " of a:1 to b;");
            Edges.faultAtBar(1, Edges.ABC + "layer |" + word + " of a:1 over 1 1 to b;");
            Edges.faultAtBar(1, Edges.ABC + "share s of |" + word + ":1 to b;");
            Edges.faultAtBar(1, Edges.ABC + "share s of a:1 to |" + word + ";");
            Edges.stands("house x" + word + ";house " + word.substring(1) + "x;");
        }
        Edges.due("keywords", PlainHouses.KEYWORDS.size(), 21);
    }

    @Says(in = IN, text = "each told once, of HOUSES and treaties alike.")
    static void aNameIsToldOnceOfHousesAndTreatiesAlike() {
        Edges.faultAtBar(3, "house a;house |a;");
        Edges.faultAtBar(3, Edges.ABC + "share |b of a:1 to b;");
        Edges.faultAtBar(3, Edges.ABC + "layer |c of a:1 over 1 1 to b;");
        Edges.faultAtBar(3, Edges.ABC + "share s of a:1 to b;share |s of b:1 to c;");
        Edges.faultAtBar(3, Edges.ABC + "share s of a:1 to b;layer |s of b:1 over 1 1 to c;");
        Edges.faultAtBar(3, Edges.ABC + "layer s of a:1 over 1 1 to b;share |s of b:1 to c;");
        Edges.faultAtBar(3, Edges.ABC + "share s of a:1 to b;house |s;");
    }

    @Says(in = IN, text = "each told once, of HOUSES and treaties alike.")
    static void namesOfAnotherWordingAreFree() {
        CoverHouses x = Edges.told(Edges.ABC + "share s of a:1 to b;");
        Edges.due("turned round", Signs.wording(x, "house s;house t;share a of s:1 to t;"), 0);
        Edges.due("with a FAULT", Signs.wording(x, "house x;house y;!"), 1 + 16 * 16);
        Edges.due("the NAMES of one with a FAULT are free, too", Signs.wording(x, "house y;house x;"), 0);
    }

    @Says(in = IN, text = "12 HOUSES, 24 treaties (shares and layers) at most.")
    static void twentyFourTreatiesAreTold() {
        for (String kind : new String[] {"share", "layer", "both"}) {
            CoverHouses x = Edges.told(Edges.houses(12) + treaties(kind, 24));
            Edges.due("HOUSES", x.count(0), 12);
            Edges.due("treaties", x.count(1), 24);
            Edges.taken("the last", x.commute(23, 0));
            Edges.refused("one more", x.commute(24, 0));
        }
    }

    private static String treaties(String kind, int n) {
        StringBuilder text = new StringBuilder();
        for (int i = 0; i < n; i++) {
            boolean share = kind.equals("share") || kind.equals("both") && i % 2 == 0;
            text.append(share ? "share q" : "layer q").append((char) ('a' + i))
                    .append(share ? " of ha:1 to hb;" : " of hb:1 over 1 1 to ha;");
        }
        return text.toString();
    }

    @Says(in = IN, text = "12 HOUSES, 24 treaties (shares and layers) at most.")
    static void a25thTreatyIsAFaultAtItsFirstWord() {
        for (String kind : new String[] {"share", "layer", "both"}) {
            String text = Edges.houses(12) + treaties(kind, 24);
            Edges.faultAtBar(5, text + "|share x of ha:1 to hb;");
            Edges.faultAtBar(5, text + "|layer x of ha:1 over 1 1 to hb;");
            Edges.faultAtBar(5, text + "|share");
            Edges.faultAtBar(5, text + "|layer !");
            Edges.faultAtBar(6, text + "event 0 hours 1 miles 1;event |0 hours 1 miles 1;");
        }
    }

    // ---- FAULTS

    @Says(in = IN, text = "FAULTS, kind + 16 * the place (from 0) of a token")
    static void thePlaceIsFrom0() {
        Edges.due("place 0", Signs.wording(new CoverHouses(), "a"), 1);
        Edges.due("place 1", Signs.wording(new CoverHouses(), " a"), 17);
        String far = Edges.repeated(" ", MOST_SIGNS - 1);
        Edges.due("place 1499", Signs.wording(new CoverHouses(), far + "a"), 1 + 16 * 1499);
    }

    @Says(in = IN, text = "FAULTS, kind + 16 * the place (from 0) of a token")
    static void thePlaceCountsSignsOfTheTapeAlone() {
        CoverHouses x = new CoverHouses();
        // A byte 9 and one of 127 are left out, so that the semicolon stands at 6.
        x.feed(0x68096f757f736520L, 0x3b00000000000000L, 0L);
        Edges.due("place 6", x.wording(), 1 + 16 * 6);
    }

    @Says(in = IN, text = "the end being one at the text's length")
    static void theEndStandsAtTheTextsLength() {
        Edges.faultAtBar(1, "house|");
        Edges.faultAtBar(1, "house   |");
        Edges.faultAtBar(1, "house a\n\n|");
        Edges.faultAtBar(1, WHEN + "1 |");
        Edges.faultAtBar(1, WHEN + "((((|");
        Edges.faultAtBar(1, "event 0 hours 1 miles 1|");
    }

    @Says(in = IN, text = "of the first token from the left that is wrong")
    static void theFirstWrongTokenIsTold() {
        Edges.faultAtBar(1, "house |A;house a;house a;");
        Edges.faultAtBar(3, "house a;house |a;!");
        Edges.faultAtBar(2, Edges.ABC + "share s of |z:0 to a;");
        Edges.faultAtBar(4, Edges.ABC + "share s of a:|0 to a;");
        Edges.faultAtBar(6, Edges.ABC + "share s of a:1 to |a and 1001 to z");
        Edges.faultAtBar(4, "event |9 hours 0 miles 1000;");
        Edges.faultAtBar(4, Edges.ABC + "layer l of a:|0 over 1 0 to a;");
        Edges.faultAtBar(4, Edges.ABC + "layer l of a:1 over 1 |0 to a;");
    }

    /** A statement of each kind, with all that may be left out. */
    private static final String[] TOKENS = {"house", "a", ";", "house", "b", ";", "house", "c", ";", "event", "7", "hours", "5",
        "miles", "5", ";", "share", "s", "of", "a", "own", ":", "1", "to", "b", "and", "1", "to", "c", "when", "not", "(", "1",
        "<", "cause", "+", "2", "-", "day", "or", "hit", "=", "losses", "and", "direct", ")", ";", "layer", "l", "of", "b", "own",
        ":", "100", "over", "0", "1000", "to", "a", "again", "1", "at", "5", "when", "1", ";"};

    private static String head(int tokens) {
        StringBuilder text = new StringBuilder();
        for (int i = 0; i < tokens; i++) {
            text.append(TOKENS[i]).append(' ');
        }
        return text.toString();
    }

    private static boolean beginsAStatement(int token) {
        return token == 0 || TOKENS[token - 1].equals(";");
    }

    @Says(in = IN, text = "of the first token from the left that is wrong")
    static void anyTokenInItsTurnMayBeTheFirstThatIsWrong() {
        Edges.stands(head(TOKENS.length));
        for (int i = 0; i < TOKENS.length; i++) {
            String head = head(i);
            if (beginsAStatement(i)) {
                Edges.faultAtBar(1, head + "house zz;|!");
                Edges.stands(head);
            } else {
                // A statement could go on there, and the second FAULT is not told.
                Edges.faultAtBar(1, head + "|house zz;!");
                Edges.faultAtBar(1, head + "|event 0 hours 1 miles 1;!");
                Edges.faultAtBar(1, head + "|");
            }
            Edges.faultAtBar(1, head + "|!;house a;");
            Edges.faultAtBar(1, head + "|abcdefghi");
        }
    }

    private static String tail(int from) {
        StringBuilder text = new StringBuilder();
        for (int i = from; i < TOKENS.length; i++) {
            text.append(' ').append(TOKENS[i]);
        }
        return text.toString();
    }

    private static void asReadPlainly(String text) {
        PlainHouses plain = new PlainHouses();
        for (int i = 0; i < text.length(); i += 24) {
            long[] abc = Signs.packed(text, i);
            plain.feed(abc[0], abc[1], abc[2]);
        }
        Edges.due(text, Signs.wording(new CoverHouses(), text), plain.wording());
    }

    @Says(in = IN, text = "of the first token from the left that is wrong the least:")
    static void everyTokenAtEveryPlaceIsReadAsInThePlainReading() {
        List<String> tokens = new ArrayList<>(PlainHouses.KEYWORDS);
        tokens.addAll(Arrays.asList("(", ")", "<", "=", "+", "-", ":", ";", "0", "1", "10", "1000", "1001", "999999", "1000000",
                "a", "b", "s", "z", "abcdefghi", "!"));
        for (int i = 0; i <= TOKENS.length; i++) {
            for (String token : tokens) {
                asReadPlainly(head(i) + token + tail(i) + "!");
                asReadPlainly(head(i) + token + tail(Math.min(i + 1, TOKENS.length)) + "!");
            }
            asReadPlainly(head(i) + tail(Math.min(i + 1, TOKENS.length)) + "!");
        }
    }

    @Says(in = IN, text = "that is wrong the least:")
    static void ofTwoKindsOfOneTokenTheLeastIsTold() {
        String twelve = Edges.houses(12);
        String full = twelve + treaties("share", 24);
        Edges.faultAtBar(1, twelve + "event 0 |house x;");
        Edges.faultAtBar(1, twelve + "share s of |house;");
        Edges.faultAtBar(1, full + "event |share");
        Edges.faultAtBar(1, full + "event 0 hours 1 miles 1 |layer");
        Edges.faultAtBar(1, "house a;house |house;");
        Edges.faultAtBar(1, Edges.ABC + "share s of |abcdefghi:1 to b;");
        Edges.faultAtBar(1, Edges.ABC + "share s of a:|1234567 to b;");
        Edges.faultAtBar(1, WHEN + "((((|own))));");
    }

    @Says(in = IN, text = "1 it is none, or can't stand there;")
    static void kind1() {
        Edges.faultAtBar(1, "|!");
        Edges.faultAtBar(1, "|(");
        Edges.faultAtBar(1, "|7;");
        Edges.faultAtBar(1, "|when 1;");
        Edges.faultAtBar(1, "house a;|and");
    }

    @Says(in = IN, text = "2 a HOUSE that is not told;")
    static void kind2() {
        Edges.faultAtBar(2, "share s of |a:1 to b;");
        Edges.faultAtBar(2, "house a;layer l of |b:1 over 1 1 to a;");
        Edges.faultAtBar(2, "house a;house b;layer l of a:1 over 1 1 to |c;");
        Edges.faultAtBar(2, "house a;house b;share s of |ab:1 to b;");
    }

    @Says(in = IN, text = "3 a NAME that is told;")
    static void kind3() {
        Edges.faultAtBar(3, "house zzzzzzzz;house |zzzzzzzz;");
        Edges.faultAtBar(3, "house a;share |a of a:1 to a;");
        String twelve = Edges.houses(12);
        Edges.faultAtBar(3, twelve + "share |ha of hb:1 to hc;");
        Edges.faultAtBar(3, twelve + "share |hl of hb:1 to hc;");
        Edges.faultAtBar(3, Edges.houses(11) + "house |hk;");
        Edges.faultAtBar(3, twelve + treaties("share", 23) + "layer |qw of hb:1 over 1 1 to hc;");
    }

    @Says(in = IN, text = "4 a NUMBER that is not as told, a PART's with which it is above 1000 together;")
    static void kind4() {
        Edges.faultAtBar(4, "event |10 hours 1 miles 1;");
        Edges.faultAtBar(4, "event 0 hours |999999 miles 1;");
        Edges.faultAtBar(4, "event 0 hours 1 miles |999999;");
        Edges.faultAtBar(4, Edges.ABC + "layer l of a:|0 over 1 1 to b;");
        Edges.faultAtBar(4, Edges.ABC + "layer l of a:1 over 1 1 to b again |11 at 1;");
        Edges.faultAtBar(4, Edges.ABC + "share s of a:400 to b and |601 to c;");
        Edges.stands(Edges.ABC + "share s of a:400 to b and 600 to c;");
        // The number is ahead of its HOUSE: it is the first token that is wrong.
        Edges.faultAtBar(4, Edges.ABC + "share s of a:400 to b and |601 to b;");
    }

    @Says(in = IN, text = "5 one too many: the words house, share, layer;")
    static void kind5OfTheWords() {
        String full = Edges.houses(12) + treaties("both", 24);
        Edges.faultAtBar(5, full + "|house x;");
        Edges.faultAtBar(5, full + "|house");
        Edges.faultAtBar(5, full + "|house ha;");
        Edges.faultAtBar(5, full + "|share qa");
        Edges.faultAtBar(5, full + "|layer");
        Edges.stands(full + "event 0 hours 1 miles 1;");
    }

    @Says(in = IN, text = "not, or a VALUE, within 4 others;")
    static void kind5OfAValueWithinFour() {
        Edges.faultAtBar(5, WHEN + "not not not not |not 1;");
        Edges.faultAtBar(5, WHEN + "((((|(1)))));");
        Edges.faultAtBar(5, WHEN + "not(not(|1));");
        Edges.faultAtBar(5, WHEN + "((1+1<1 and ((|hit))));");
        Edges.faultAtBar(5, WHEN + "(((1 or (|1))));");
        Edges.faultAtBar(1, WHEN + "((((|))));");
    }

    @Says(in = IN, text = "6 an event's cause told again; a HOUSE of a PART that is the treaty's own, or is in it already.")
    static void kind6() {
        Edges.faultAtBar(6, "event 0 hours 1 miles 1;event |0 hours 0 miles 1;");
        Edges.faultAtBar(6, Edges.ABC + "share s of a:1 to b and 999 to |a;");
        Edges.faultAtBar(6, Edges.ABC + "share s of a:1 to c and 999 to |c;");
        Edges.faultAtBar(6, Edges.ABC + "layer l of a own:1 over 1 1 to |a and 1 to a;");
    }

    // ---- in force

    @Says(in = IN, text = "A WORDING without a FAULT is in force, for all there is, in place of the one ahead;")
    static void aWordingIsInForceForAllThereIs() {
        CoverHouses x = Edges.told(Edges.ABC + "event 0 hours 1 miles 0;share s of a:500 to b;", 3);
        x.loss(0, 0, 0, 0, 0, 100);
        x.loss(0, 5, 0, 0, 0, 100);
        Edges.due("EVENTS", x.events(), 2);
        Edges.due("owed", x.owed(1, 0), 100);
        Edges.due("another one", Signs.wording(x, "house a;house b;share s of b:500 to a;"), 0);
        Edges.due("its own hours", x.events(), 1);
        Edges.due("nothing of the treaty ahead", x.owed(1, 0), 0);
        x.view(0);
        Signs.wording(x, Edges.ABC + "share s of a:100 to c;");
        x.view(3);
        Edges.due("whatever THE VIEW was", x.owed(2, 0), 20);
    }

    @Says(in = IN, text = "A WORDING without a FAULT is in force, for all there is, in place of the one ahead;")
    static void aWordingWithAFaultIsNotInForce() {
        CoverHouses x = Edges.told(Edges.ABC + "event 0 hours 1 miles 0;share s of a:500 to b;", 3);
        x.loss(0, 0, 0, 0, 0, 100);
        x.loss(0, 5, 0, 0, 0, 100);
        String other = "house a;event 0 hours 9 miles 9;house d;share s of d:1000 to a;house e;house f";
        Edges.due("a FAULT at the end", Signs.wording(x, other), 1 + 16 * other.length());
        Edges.due("HOUSES", x.count(0), 3);
        Edges.due("treaties", x.count(1), 1);
        Edges.due("EVENTS", x.events(), 2);
        Edges.due("owed", x.owed(1, 0), 100);
    }

    private static final String[] WORDINGS = {
        "house a;house b;house c;event 0 hours 2 miles 3;share s of a own:400 to b and 500 to c when 0;share t of a:900 to b;"
            + "layer l of b:50 over 5 1000 to c again 2 at 90;",
        "house a;house b;house c;house d;layer k of b own:70 over 1 600 to a and 300 to d again 1 at 33 when losses<3;"
            + "share s of c:500 to d;share t of a:500 to c;",
        "house x;house y;share q of x:300 to y;layer r of x:9 over 2 1000 to y;share z of y:100 to x;",
        "house a;", "",
        "house p;house q;house r;house s;event 3 hours 1 miles 0;event 0 hours 9 miles 9;layer l of p:30 over 0 1 to s;"
            + "layer m of q own:40 over 0 999 to r when not(day=0);share n of p own:1000 to q;"};

    private static void tellLosses(CoverHouses x) {
        x.loss(0, 0, 0, 0, 0, 100);
        x.loss(0, 4, 2, 0, 1, 60);
        x.loss(1, 5, 3, 3, 2, 80);
        x.loss(2, 30, 3, 3, 3, 45);
        x.loss(1, 40, 9, 0, 4, 20);
        x.purse(0, 120);
        x.purse(1, 110);
    }

    @Says(in = IN, text = "A WORDING without a FAULT is in force, for all there is, in place of the one ahead;")
    static void nothingIsLeftOfAnyWordingAhead() {
        int n = WORDINGS.length;
        for (int i = 0; i < n * n * n; i++) {
            String last = WORDINGS[i % n];
            CoverHouses alone = Edges.told(last, 3);
            tellLosses(alone);
            CoverHouses x = Edges.newOn(3);
            tellLosses(x);
            for (String ahead : new String[] {WORDINGS[i / n % n], WORDINGS[i / n / n]}) {
                Signs.wording(x, ahead);
                for (int treaty = 0; treaty < 3; treaty++) {
                    x.commute(treaty, 500);
                }
                x.events();
            }
            Edges.due("the last of three", Signs.wording(x, last), 0);
            Edges.need("it is as if it were the only one", Portrait.of(x).equals(Portrait.of(alone)));
        }
    }

    @Says(in = IN, text = "A WORDING without a FAULT is in force, for all there is, in place of the one ahead;")
    static void conditionsOfManyLongWordings() {
        CoverHouses x = new CoverHouses();
        x.loss(0, 0, 0, 0, 0, 100);
        for (int i = 0; i < 6; i++) {
            String sum = "0" + Edges.repeated("+1", 600) + "=" + (600 + i % 2);
            Edges.due("wording " + i, Signs.wording(x, "house a;house b;share s of a:1000 to b when " + sum + ";"), 0);
            Edges.due("paid " + i, x.gross(0, 1, 1), i % 2 == 0 ? 100 : 0);
        }
    }

    @Says(in = IN, text = "treaties that were commuted are so no more.")
    static void treatiesAreCommutedNoMoreInAnyLaterWording() {
        String text = "house a;house b;share s of a:500 to b;";
        CoverHouses x = Edges.told(text);
        for (int i = 0; i < 5; i++) {
            Edges.taken("commuted", x.commute(0, 7));
            Edges.due("COMMUTED", x.count(7), 1);
            Edges.due("a FAULT", Signs.wording(x, text + "!"), 1 + 16 * text.length());
            Edges.due("COMMUTED still", x.count(7), 1);
            Edges.due("the wording again", Signs.wording(x, text), 0);
            Edges.due("COMMUTED no more", x.count(7), 0);
        }
    }

    @Says(in = IN, text = "treaties that were commuted are so no more.")
    static void treatiesAreCommutedNoMoreInAnotherWording() {
        String text = Edges.ABC + "share s of a:500 to b;share t of a:500 to c;";
        CoverHouses x = Edges.told(text);
        x.loss(0, 0, 0, 0, 0, 100);
        x.commute(0, 7);
        x.commute(1, 8);
        Edges.due("COMMUTED", x.count(7), 2);
        Edges.due("the same wording again", Signs.wording(x, text), 0);
        Edges.due("COMMUTED no more", x.count(7), 0);
        Edges.due("it pays", x.owed(1, 0), 50);
        Edges.taken("once more", x.commute(0, 9));
        Edges.due("the sum", x.owed(1, 0), 4);
        Edges.due("a FAULT", Signs.wording(x, "!"), 1);
        Edges.due("COMMUTED still", x.count(7), 1);
        Edges.refused("again behind a FAULT", x.commute(0, 9));
    }

    @Says(in = IN, text = "A LOSS of a HOUSE that is not told counts for nothing.")
    static void aLossOfAHouseThatIsNotToldCountsForNothing() {
        CoverHouses x = Edges.told(Edges.ABC + "share s of a:1000 to b when losses=1 and hit=1;");
        x.loss(3, 0, 0, 0, 5, 100);
        x.loss(0, 1, 0, 0, 0, 10);
        x.loss(11, 2, 0, 0, 0, 100);
        Edges.due("LOSSES that count", x.count(6), 1);
        Edges.due("no EVENT of it", x.eventOf(0), Edges.NONE);
        Edges.due("it begins none", x.event(0, 0), 1);
        Edges.due("in no condition", x.owed(1, 0), 10);
        Edges.due("in no DIRECT", x.event(0, 4), 10);
        Edges.due("in no worst storm", x.worst(1, 6), 1);
        Edges.due("another wording", Signs.wording(x, Edges.ABC + "house d;"), 0);
        Edges.due("with its HOUSE told it counts", x.event(0, 4), 110);
    }
}
