import java.io.IOException;

/** ==== 4: what is owed in an EVENT, what is reinstated and commuted, what a HOUSE bears and would rather have. */
public final class Terms4EdgesTest {
    private static final String IN = "Terms 4";
    private static final String A_TO_B = Edges.ABC + "share s of a:1000 to b;";

    private Terms4EdgesTest() {
    }

    public static void main(String[] args) throws IOException, ReflectiveOperationException {
        Edges.runAll(Terms4EdgesTest.class);
    }

    /** Told a wording behind the three HOUSES, with LOSSES of a, of cause 0, each in an EVENT of its own. */
    private static CoverHouses apart(String treaties, int... amounts) {
        CoverHouses x = Edges.told(Edges.ABC + "event 0 hours 1 miles 0;" + treaties, 9);
        for (int i = 0; i < amounts.length; i++) {
            x.loss(0, i, 0, 0, i % 6, amounts[i]);
        }
        return x;
    }

    private static void pays(String condition, CoverHouses x, boolean yes) {
        Edges.due(condition, Signs.wording(x, Edges.ABC + "share s of a:1000 to b when " + condition + ";"), 0);
        Edges.due(condition, x.owed(1, 0) > 0 ? 1 : 0, yes ? 1 : 0);
    }

    private static CoverHouses threeLosses() {
        CoverHouses x = Edges.newOn(9);
        x.loss(0, 47, 0, 6, 0, 30);
        x.loss(0, 48, 0, 6, 0, 20);
        x.loss(2, 49, 0, 6, 0, 5);
        return x;
    }

    // ---- DIRECT and GROSS

    @Says(in = IN, text = "WHAT IS OWED in an EVENT. DIRECT of a HOUSE: the sum of its LOSSES in it.")
    static void directIsTheSumOfTheLossesInTheEventAlone() {
        CoverHouses x = Edges.told(Edges.ABC, 30);
        x.loss(0, 0, 0, 0, 0, 5);
        x.loss(0, 167, 0, 0, 0, 7);
        x.loss(0, 168, 0, 0, 0, 11);
        x.loss(1, 0, 0, 0, 0, 13);
        Edges.due("of the first EVENT", x.gross(0, 0, 0), 12);
        Edges.due("of the second", x.gross(1, 0, 0), 11);
        Edges.due("of another HOUSE", x.gross(0, 1, 0), 13);
        Edges.due("of a HOUSE without a LOSS", x.gross(0, 2, 0), 0);
        Edges.due("of all", x.event(0, 4), 25);
    }

    @Says(in = IN, text = "DIRECT of a HOUSE: the sum of its LOSSES in it.")
    static void directAtItsLargestIs6000000() {
        CoverHouses x = Edges.told(A_TO_B);
        for (int i = 0; i < 60; i++) {
            x.loss(0, 0, 0, 0, 0, 100000);
        }
        Edges.due("DIRECT", x.gross(0, 0, 0), 6000000);
        Edges.due("of all", x.event(0, 4), 6000000);
        Edges.due("a PART of 1000 pays all of it", x.gross(0, 1, 1), 6000000);
        Edges.due("nothing is left", x.gross(0, 0, 2), 0);
    }

    @Says(in = IN, text = "GROSS: DIRECT and all that it is to pay others as a PART of treaties.")
    static void grossIsDirectAndAllParts() {
        CoverHouses x = Edges.told(Edges.ABC + "share s of a:100 to c;share t of b:500 to c;layer l of b:10 over 5 1000 to c;");
        x.loss(0, 0, 0, 0, 0, 100);
        x.loss(1, 0, 0, 0, 0, 40);
        x.loss(2, 0, 0, 0, 0, 3);
        Edges.due("of three treaties", x.gross(0, 2, 1), 3 + 10 + 20 + 10);
        Edges.due("a pays none", x.gross(0, 0, 1), 100);
    }

    // ---- E

    @Says(in = IN, text = "A treaty in which E is 0")
    static void anEOf0PaysNothingAnyOtherPays() {
        pays("0", threeLosses(), false);
        pays("1", threeLosses(), true);
        pays("999999", threeLosses(), true);
        pays("0-1", threeLosses(), true);
        pays("1-1", threeLosses(), false);
    }

    @Says(in = IN, text = "A treaty in which E is 0")
    static void aTreatyThatPaysNothingLeavesItsBaseToTheNext() {
        CoverHouses x = Edges.told(Edges.ABC + "share s of a:600 to b when 0;share t of a:600 to c;");
        x.loss(0, 0, 0, 0, 0, 10);
        Edges.due("its base", x.treaty(0, 0, 0), 0);
        Edges.due("the base of the next", x.treaty(0, 1, 0), 10);
        Edges.due("ALL behind both", x.gross(0, 0, 2), 4);
    }

    @Says(in = IN, text = "(cause;")
    static void causeIsTheEventsCause() {
        for (int cause = 0; cause <= 7; cause++) {
            CoverHouses x = new CoverHouses();
            x.loss(0, 0, 0, cause, 0, 10);
            pays("cause=" + cause, x, true);
            pays("cause<" + cause, x, false);
            pays("cause<" + (cause + 1), x, true);
        }
    }

    @Says(in = IN, text = "day: of the EVENT's first LOSS;")
    static void dayIsThatOfTheFirstLoss() {
        pays("day=1", threeLosses(), true);
        pays("day=2", threeLosses(), false);
        CoverHouses x = threeLosses();
        x.split(1, true);
        Signs.wording(x, Edges.ABC + "share s of a:1000 to b when day=2;");
        Edges.due("the second EVENT's", x.owed(1, 0), 20);
    }

    @Says(in = IN, text = "day: of the EVENT's first LOSS;")
    static void dayIs0To9999() {
        CoverHouses x = Edges.newOn(9999);
        x.loss(0, 0, 0, 0, 0, 10);
        pays("day=0", x, true);
        pays("0<day", x, false);
        CoverHouses y = Edges.newOn(9999);
        y.loss(0, 239999, 0, 0, 0, 10);
        pays("day=9999", y, true);
        pays("day<9999", y, false);
    }

    @Says(in = IN, text = "losses: how many are in it;")
    static void lossesAre1To60() {
        pays("losses=3", threeLosses(), true);
        CoverHouses x = new CoverHouses();
        x.loss(0, 0, 0, 0, 0, 1);
        pays("losses=1", x, true);
        for (int i = 1; i < 60; i++) {
            x.loss(0, 0, 0, 0, 0, 1);
        }
        pays("losses=60", x, true);
        x.word(3, 0);
        pays("losses=59", x, true);
    }

    @Says(in = IN, text = "direct: of the treaty's HOUSE;")
    static void directIsThatOfTheTreatysHouse() {
        pays("direct=50", threeLosses(), true);
        pays("direct=55", threeLosses(), false);
        CoverHouses x = Edges.told(Edges.ABC + "share s of a:1000 to b;share t of b:1000 to c when direct=0;");
        x.loss(0, 0, 0, 0, 0, 10);
        Edges.due("none, though it has GROSS", x.gross(0, 2, 1), 10);
    }

    @Says(in = IN, text = "direct: of the treaty's HOUSE;")
    static void directAtItsLargestInASum() {
        CoverHouses x = new CoverHouses();
        for (int i = 0; i < 60; i++) {
            x.loss(0, 0, 0, 0, 0, 100000);
        }
        pays("direct=6" + Edges.repeated("+999999", 6), x, true);
        pays("direct" + Edges.repeated("+direct", 180) + "<0", x, false);
        pays("0" + Edges.repeated("-direct", 180) + "<0", x, true);
    }

    @Says(in = IN, text = "hit: how many HOUSES have DIRECT;")
    static void hitIs1To12() {
        pays("hit=2", threeLosses(), true);
        CoverHouses x = new CoverHouses();
        for (int i = 0; i < 12; i++) {
            x.loss(i, 0, 0, 0, 0, 1);
        }
        Edges.due("12 HOUSES", Signs.wording(x, Edges.houses(12) + "share s of ha:1000 to hb when hit=12;"), 0);
        Edges.due("hit is 12", x.owed(1, 0), 1);
        pays("hit=3", x, true);
        x.word(1, 0);
        x.word(2, 0);
        pays("hit=1", x, true);
    }

    @Says(in = IN, text = "hit: how many HOUSES have DIRECT;")
    static void aHouseWithGrossAloneIsNotHit() {
        CoverHouses x = Edges.told(A_TO_B + "share t of b:1000 to c when hit<2;");
        x.loss(0, 0, 0, 0, 0, 10);
        Edges.due("b is not hit", x.gross(0, 2, 1), 10);
        x.loss(1, 0, 0, 0, 0, 1);
        Edges.due("b is hit", x.gross(0, 2, 1), 0);
    }

    @Says(in = IN, text = "not: 1 of 0, else 0;")
    static void notIs1Of0Else0() {
        pays("not 0=1", threeLosses(), true);
        pays("not 1=0", threeLosses(), true);
        pays("not 999999=0", threeLosses(), true);
        pays("not(0-1)=0", threeLosses(), true);
        pays("not not 5=1", threeLosses(), true);
    }

    @Says(in = IN, text = "\"and\", \"or\", <, = tell 1 or 0)")
    static void andOrAndComparisonsTell1Or0() {
        pays("(2 and 3)=1", threeLosses(), true);
        pays("(2 and 0)=0", threeLosses(), true);
        pays("(0 and 2)=0", threeLosses(), true);
        pays("(0 or 3)=1", threeLosses(), true);
        pays("(3 or 0)=1", threeLosses(), true);
        pays("(0 or 0)=0", threeLosses(), true);
        pays("((0-1)and(0-1))=1", threeLosses(), true);
        pays("(1<2)=1", threeLosses(), true);
        pays("(2<2)=0", threeLosses(), true);
        pays("(2=2)=1", threeLosses(), true);
        pays("(2=1)=0", threeLosses(), true);
        pays("(0-1<0)=1", threeLosses(), true);
    }

    @Says(in = IN, text = "or that is commuted, pays nothing.")
    static void aCommutedTreatyPaysNothing() {
        CoverHouses x = Edges.told(Edges.ABC + "share s of a:600 to b;layer l of a:100 over 0 1000 to c again 1 at 50;");
        x.loss(0, 0, 0, 0, 0, 10);
        x.commute(0, 0);
        Edges.due("the share", x.gross(0, 1, 1), 0);
        Edges.due("the layer has all", x.treaty(0, 1, 1), 10);
        x.commute(1, 0);
        Edges.due("the layer", x.gross(0, 2, 1), 0);
        Edges.due("no USE", x.left(1), 200);
        Edges.due("no premium", x.owed(0, 2), 0);
        Edges.due("ALL", x.gross(0, 0, 2), 10);
    }

    // ---- ALL, OWN, shares and layers

    @Says(in = IN, text = "Of a HOUSE in the order of the wording:")
    static void treatiesGoInTheOrderOfTheWording() {
        CoverHouses x = Edges.told(Edges.ABC + "share s of a:500 to b;share q of b:100 to c;layer l of a:40 over 10 1000 to c;");
        x.loss(0, 0, 0, 0, 0, 100);
        Edges.due("the share first", x.treaty(0, 0, 0), 100);
        Edges.due("then the layer", x.treaty(0, 2, 0), 50);
        Signs.wording(x, Edges.ABC + "layer l of a:40 over 10 1000 to c;share q of b:100 to c;share s of a:500 to b;");
        Edges.due("the layer first", x.treaty(0, 0, 0), 100);
        Edges.due("then the share", x.treaty(0, 2, 0), 60);
    }

    @Says(in = IN, text = "ALL is its GROSS at first, OWN its DIRECT; a treaty's base is OWN with the word own, else ALL.")
    static void theBaseIsOwnWithTheWordElseAll() {
        CoverHouses x = Edges.told(Edges.ABC + "share r of b:1000 to a;share s of a own:100 to c;layer l of a:1 over 0 1 to c;");
        x.loss(0, 0, 0, 0, 0, 100);
        x.loss(1, 0, 0, 0, 0, 200);
        Edges.due("OWN", x.treaty(0, 1, 0), 100);
        Edges.due("ALL behind it", x.treaty(0, 2, 0), 290);
        x.word(0, 0);
        Edges.due("no DIRECT, no OWN", x.treaty(0, 1, 0), 0);
        Edges.due("ALL alone", x.treaty(0, 2, 0), 200);
    }

    @Says(in = IN, text = "share: each PART pays base * N / 1000, cut.")
    static void eachPartOfAShareIsCut() {
        CoverHouses x = apart("share s of a:1 to b and 999 to c;", 999, 1000, 1001, 1);
        int[] b = {0, 1, 1, 0};
        int[] c = {998, 999, 999, 0};
        for (int event = 0; event < 4; event++) {
            Edges.due("1 thousandth", x.gross(event, 1, 1), b[event]);
            Edges.due("999 thousandths", x.gross(event, 2, 1), c[event]);
            Edges.due("both", x.treaty(event, 0, 2), b[event] + c[event]);
        }
    }

    @Says(in = IN, text = "layer: its USE is what the base is above N of over, 0 at least")
    static void aUseIsWhatIsAboveOver() {
        CoverHouses x = apart("layer l of a:1000 over 50 1000 to b again 9 at 0;", 1, 49, 50, 51, 99);
        int[] use = {0, 0, 0, 1, 49};
        for (int event = 0; event < 5; event++) {
            Edges.due("USE", x.treaty(event, 0, 1), use[event]);
            Edges.due("what is paid", x.gross(event, 1, 1), use[event]);
        }
        Edges.due("a base that is not above", x.treaty(2, 0, 0), 50);
    }

    @Says(in = IN, text = "not above its limit")
    static void aUseIsNotAboveTheLimit() {
        CoverHouses x = apart("layer l of a:100 over 50 1000 to b again 9 at 0;", 149, 150, 151, 100000);
        int[] use = {99, 100, 100, 100};
        for (int event = 0; event < 4; event++) {
            Edges.due("USE", x.treaty(event, 0, 1), use[event]);
        }
    }

    @Says(in = IN, text = "nor above what is left of it: limit * (1 + again) less its USES in the EVENTS ahead;")
    static void aUseIsNotAboveWhatIsLeft() {
        CoverHouses x = apart("layer l of a:100 over 0 1000 to b again 1 at 0;", 70, 70, 70, 70);
        int[] use = {70, 70, 60, 0};
        for (int event = 0; event < 4; event++) {
            Edges.due("USE", x.treaty(event, 0, 1), use[event]);
        }
        Edges.due("nothing is left", x.left(0), 0);
        Edges.due("the base is told still", x.treaty(3, 0, 0), 70);
    }

    @Says(in = IN, text = "nor above what is left of it: limit * (1 + again) less its USES in the EVENTS ahead;")
    static void withoutAgainALimitIsUsedOnce() {
        CoverHouses x = apart("layer l of a:100 over 0 1000 to b;", 100, 1);
        Edges.due("all of it", x.treaty(0, 0, 1), 100);
        Edges.due("nothing more", x.treaty(1, 0, 1), 0);
        CoverHouses y = apart("layer l of a:100 over 0 1000 to b;", 99, 1, 1);
        Edges.due("all but one", y.treaty(0, 0, 1), 99);
        Edges.due("the last one", y.treaty(1, 0, 1), 1);
        Edges.due("nothing more", y.treaty(2, 0, 1), 0);
    }

    @Says(in = IN, text = "nor above what is left of it: limit * (1 + again) less its USES in the EVENTS ahead;")
    static void nineTimesAgainAreTenLimits() {
        int[] amounts = new int[11];
        java.util.Arrays.fill(amounts, 100000);
        CoverHouses x = apart("layer l of a:99999 over 0 1000 to b again 9 at 0;", amounts);
        Edges.due("the tenth", x.treaty(9, 0, 1), 99999);
        Edges.due("the eleventh", x.treaty(10, 0, 1), 0);
        Edges.due("in all", x.owed(1, 0), 999990);
    }

    @Says(in = IN, text = "nor above what is left of it: limit * (1 + again) less its USES in the EVENTS ahead;")
    static void anotherUseInAnEventAheadLeavesAnotherRest() {
        CoverHouses x = apart("layer l of a:100 over 0 1000 to b;", 30, 90, 90);
        int[] amounts = {30, 80, 0, 1, 100, 30};
        int[] second = {70, 20, 90, 90, 0, 70};
        for (int i = 0; i < amounts.length; i++) {
            x.word(0, amounts[i]);
            int event = x.eventOf(1);
            Edges.due("USE of the one that was 90 all the time", x.treaty(event, 0, 1), second[i]);
            Edges.due("of the third", x.treaty(event + 1, 0, 1), Math.min(90, 100 - amounts[i] - second[i]));
        }
        x.leave(0, true);
        Edges.due("without the first", x.treaty(0, 0, 1), 90);
        x.leave(0, false);
        Edges.due("with it again", x.treaty(1, 0, 1), 70);
    }

    @Says(in = IN, text = "each PART pays USE * N / 1000, cut.")
    static void eachPartOfALayerIsCut() {
        CoverHouses x = apart("layer l of a:1000 over 0 333 to b and 667 to c again 9 at 0;", 1, 2, 3, 1000);
        int[] b = {0, 0, 0, 333};
        int[] c = {0, 1, 2, 667};
        for (int event = 0; event < 4; event++) {
            Edges.due("333 thousandths", x.gross(event, 1, 1), b[event]);
            Edges.due("667 thousandths", x.gross(event, 2, 1), c[event]);
            Edges.due("both", x.treaty(event, 0, 2), b[event] + c[event]);
        }
        Edges.due("the USE is not what is paid", x.treaty(1, 0, 1), 2);
        Edges.due("the USES are what is used up", x.left(0), 10000 - 1006);
    }

    @Says(in = IN, text = "What all PARTS pay together goes off ALL")
    static void whatIsPaidGoesOffAllAndNotTheUse() {
        CoverHouses x = apart("layer l of a:100 over 0 500 to b and 1 to c;share s of a:1000 to c;", 100);
        Edges.due("USE", x.treaty(0, 0, 1), 100);
        Edges.due("paid", x.treaty(0, 0, 2), 50);
        Edges.due("the next base", x.treaty(0, 1, 0), 50);
        Edges.due("nothing is left", x.gross(0, 0, 2), 0);
    }

    @Says(in = IN, text = "and off OWN (0 at least) with the word own;")
    static void whatIsPaidGoesOffOwnWithTheWordAlone() {
        CoverHouses x = apart("share s of a own:1000 to b;share t of a own:1000 to c;", 10);
        Edges.due("all of OWN", x.treaty(0, 0, 2), 10);
        Edges.due("0 is left", x.treaty(0, 1, 0), 0);
        String fromB = "share r of b:1000 to a;";
        CoverHouses y = apart(fromB + "share s of a:300 to c;share t of a own:1000 to c;", 100);
        y.loss(1, 0, 0, 0, 0, 900);
        Edges.due("without the word OWN stays", y.treaty(0, 2, 0), 100);
        CoverHouses z = apart(fromB + "share s of a own:300 to c;share t of a own:1000 to c;", 100);
        z.loss(1, 0, 0, 0, 0, 900);
        Edges.due("with the word it goes off", z.treaty(0, 2, 0), 70);
    }

    @Says(in = IN, text = "OWN is never above ALL then.")
    static void ownIsNeverAboveAll() {
        CoverHouses x = apart("share s of a:600 to b;share t of a own:1000 to c;", 100);
        Edges.due("ALL is 40, and so OWN", x.treaty(0, 1, 0), 40);
        CoverHouses y = apart("share r of b:1000 to a;share s of a:600 to c;share t of a own:1000 to c;", 100);
        y.loss(1, 0, 0, 0, 0, 150);
        Edges.due("ALL is 100, as OWN", y.treaty(0, 2, 0), 100);
        y.word(1, 149);
        Edges.due("ALL is 100 of 249 less 149", y.treaty(0, 2, 0), 100);
        y.word(1, 147);
        Edges.due("ALL is 99", y.treaty(0, 2, 0), 99);
        CoverHouses z = apart("share s of a:1000 to b;share t of a own:1000 to c;", 100);
        Edges.due("ALL is 0, and so OWN", z.treaty(0, 1, 0), 0);
    }

    // ---- ROUNDS

    /** Needs 2 * limit + 2 ROUNDS. */
    private static CoverHouses slow(int limit, String more) {
        CoverHouses x = Edges.told(A_TO_B + "layer l of b:" + limit + " over 0 1000 to a;" + more);
        x.loss(0, 0, 0, 0, 0, 1);
        return x;
    }

    @Says(in = IN, text = "GROSS of all HOUSES is the least that agrees: it is DIRECT alone at first;")
    static void theLeastThatAgreesIsReachedFromDirect() {
        // Any GROSS of a agrees with itself here; DIRECT alone is the least.
        CoverHouses x = Edges.told(Edges.ABC + "share s of a:1000 to b;share t of b:1000 to a when 0;");
        x.loss(0, 0, 0, 0, 0, 1);
        Edges.due("a", x.gross(0, 0, 1), 1);
        CoverHouses y = Edges.told(Edges.ABC + "layer l of a:100 over 10 1000 to b;layer m of b:100 over 0 1000 to a;");
        y.loss(0, 0, 0, 0, 0, 10);
        Edges.due("10 and nothing that goes round", y.gross(0, 0, 1), 10);
        Edges.due("one ROUND", y.event(0, 2), 1);
        y.word(0, 11);
        Edges.due("1 goes round until the layers are full", y.gross(0, 0, 1), 111);
        Edges.due("b has the limit of the first", y.gross(0, 1, 1), 100);
    }

    @Says(in = IN, text = "then all treaties are reckoned from it, and what comes from that is the next;")
    static void eachRoundGoesOneTreatyFurther() {
        String chain = "";
        for (int i = 0; i < 11; i++) {
            chain += "share q" + (char) ('a' + i) + " of h" + (char) ('a' + i) + ":1000 to h" + (char) ('b' + i) + ";";
        }
        CoverHouses x = Edges.told(Edges.houses(12) + chain);
        x.loss(0, 0, 0, 0, 0, 5);
        Edges.due("GROSS of the last", x.gross(0, 11, 1), 5);
        Edges.due("ROUNDS", x.event(0, 2), 12);
    }

    @Says(in = IN, text = "ROUNDS, until nothing changes (the last one counts).")
    static void theRoundInWhichNothingChangesCounts() {
        CoverHouses x = Edges.told(Edges.ABC);
        x.loss(0, 0, 0, 0, 0, 1);
        Edges.due("no treaty", x.event(0, 2), 1);
        CoverHouses y = Edges.told(A_TO_B);
        y.loss(0, 0, 0, 0, 0, 1);
        Edges.due("one treaty", y.event(0, 2), 2);
        Edges.due("a ring with a limit", slow(5, "").event(0, 2), 12);
    }

    @Says(in = IN, text = "Behind 2000 ROUNDS")
    static void whatAgreesInThe2000thRoundIsNotEndless() {
        CoverHouses x = slow(999, "");
        Edges.due("ROUNDS", x.event(0, 2), 2000);
        Edges.due("not ENDLESS", x.event(0, 3), 0);
        Edges.due("GROSS", x.gross(0, 0, 1), 1000);
        Edges.due("USE", x.treaty(0, 1, 1), 999);
    }

    @Says(in = IN, text = "Behind 2000 ROUNDS")
    static void whatWouldAgreeInThe2001stRoundIsEndless() {
        String third = "share t of b:1000 to c;";
        Edges.due("1999", slow(998, third).event(0, 2), 1999);
        Edges.due("not ENDLESS", slow(998, third).event(0, 3), 0);
        CoverHouses x = slow(999, third);
        Edges.due("ROUNDS", x.event(0, 2), 2000);
        Edges.due("ENDLESS", x.event(0, 3), 1);
        Edges.due("GROSS is DIRECT", x.gross(0, 0, 1), 1);
        Edges.due("no USE", x.treaty(0, 1, 1), 0);
        Edges.due("all is left", x.left(1), 999);
        Edges.due("ENDLESS, too", slow(1000, "").event(0, 3), 1);
    }

    /** a passes 6000000 to b, which passes 14 times 999999 and the last one's limit back. */
    private static CoverHouses grossOf(int lastLimit) {
        StringBuilder text = new StringBuilder(A_TO_B + "layer l of b:" + lastLimit + " over 0 1000 to a;");
        for (int i = 0; i < 14; i++) {
            text.append("layer q").append((char) ('a' + i)).append(" of b:999999 over 0 1000 to a;");
        }
        CoverHouses x = Edges.told(text.toString());
        for (int i = 0; i < 60; i++) {
            x.loss(0, 0, 0, 0, 0, 100000);
        }
        return x;
    }

    @Says(in = IN, text = "or with a GROSS above 20000000, the EVENT is ENDLESS:")
    static void aGrossOf20000000IsNotEndless() {
        CoverHouses x = grossOf(14);
        Edges.due("not ENDLESS", x.event(0, 3), 0);
        Edges.due("a", x.gross(0, 0, 1), 20000000);
        Edges.due("b", x.gross(0, 1, 1), 20000000);
        Edges.due("owed", x.owed(1, 0), 20000000);
        Edges.due("owed back", x.owed(0, 1), 14000000);
        Edges.due("bears", x.bears(1), 6000000);
    }

    @Says(in = IN, text = "or with a GROSS above 20000000, the EVENT is ENDLESS:")
    static void aGrossOf20000001IsEndless() {
        CoverHouses x = grossOf(15);
        Edges.due("ENDLESS", x.event(0, 3), 1);
        Edges.due("GROSS is DIRECT", x.gross(0, 0, 1), 6000000);
        Edges.due("nothing owed", x.owed(1, 0), 0);
        Edges.due("bears", x.bears(1), 0);
    }

    @Says(in = IN, text = "no treaty pays in it.")
    static void noTreatyPaysInAnEndlessEventButInOthers() {
        CoverHouses x = apart("share s of a:1000 to b when cause=0;share t of b:1000 to a when cause=0;"
                + "layer l of a own:50 over 0 1000 to c again 1 at 30;", 7);
        x.loss(0, 1, 0, 1, 0, 20);
        Edges.due("ENDLESS", x.event(0, 3), 1);
        for (int treaty = 0; treaty <= 2; treaty++) {
            for (int what = 0; what <= 4; what++) {
                Edges.due("treaty " + treaty + " what " + what, x.treaty(0, treaty, what), 0);
            }
        }
        Edges.due("ALL is DIRECT", x.gross(0, 0, 2), 7);
        Edges.due("the other EVENT has an end", x.event(1, 3), 0);
        Edges.due("USE of the other alone", x.left(2), 80);
        Edges.due("the premium", x.owed(0, 2), 12);
        Edges.due("DIRECT of both, and what is owed", x.bears(0), 7 + 20 - 20 + 12);
    }

    // ---- REINSTATED

    @Says(in = IN, text = "REINSTATED of a layer is its USE in an EVENT, but no more than limit * again less what was REINSTATED in "
            + "the EVENTS ahead;")
    static void reinstatedIsTheUseUpToLimitTimesAgain() {
        CoverHouses x = apart("layer l of a:100 over 0 1000 to b again 2 at 100;", 70, 100, 40, 70);
        int[] use = {70, 100, 40, 70};
        int[] reinstated = {70, 100, 30, 0};
        for (int event = 0; event < 4; event++) {
            Edges.due("USE", x.treaty(event, 0, 1), use[event]);
            Edges.due("REINSTATED", x.treaty(event, 0, 3), reinstated[event]);
            Edges.due("premium", x.treaty(event, 0, 4), reinstated[event]);
        }
        Edges.due("left", x.left(0), 20);
    }

    @Says(in = IN, text = "but no more than limit * again less what was REINSTATED in the EVENTS ahead;")
    static void again0ReinstatesNothing() {
        CoverHouses x = apart("layer l of a:100 over 0 1000 to b again 0 at 999999;", 70);
        Edges.due("USE", x.treaty(0, 0, 1), 70);
        Edges.due("REINSTATED", x.treaty(0, 0, 3), 0);
        Edges.due("premium", x.treaty(0, 0, 4), 0);
        Edges.due("owed", x.owed(0, 1), 0);
    }

    @Says(in = IN, text = "REINSTATED of a layer is its USE in an EVENT")
    static void withoutAUseNothingIsReinstatedWhateverWasSoFar() {
        CoverHouses x = apart("layer l of a:100 over 10 1000 to b again 1 at 50 when hit=1;", 70);
        for (int i = 0; i < 2; i++) {
            Edges.due("REINSTATED", x.treaty(0, 0, 3), 60);
            Edges.due("premium", x.treaty(0, 0, 4), 30);
            x.word(0, 10);
            Edges.due("no USE, nothing REINSTATED", x.treaty(0, 0, 3), 0);
            Edges.due("no premium", x.treaty(0, 0, 4), 0);
            x.word(0, 70);
        }
        x.loss(1, 0, 0, 0, 0, 1);
        Edges.due("E is 0, nothing REINSTATED", x.treaty(0, 0, 3), 0);
        Edges.due("no premium", x.treaty(0, 0, 4), 0);
        x.word(1, 0);
        Edges.due("E is 1 again", x.treaty(0, 0, 3), 60);
        x.commute(0, 1);
        Edges.due("commuted, nothing REINSTATED", x.treaty(0, 0, 3), 0);
        Edges.due("no premium", x.treaty(0, 0, 4), 0);
        Edges.due("a share", Signs.wording(x, Edges.ABC + "share s of a:1 to b;"), 0);
        Edges.due("of a share nothing is REINSTATED", x.treaty(0, 0, 3), 0);
    }

    @Says(in = IN, text = "for that its HOUSE owes its premium * REINSTATED / limit, cut")
    static void thePremiumIsCut() {
        CoverHouses x = apart("layer l of a:300 over 0 1000 to b again 1 at 100;", 1, 2, 3, 4, 299);
        int[] premium = {0, 0, 1, 1, 96};
        for (int event = 0; event < 5; event++) {
            Edges.due("premium", x.treaty(event, 0, 4), premium[event]);
        }
        // Of the last one 290 alone are open.
        Edges.due("REINSTATED of the last", x.treaty(4, 0, 3), 290);
        Edges.due("owed", x.owed(0, 1), 98);
    }

    @Says(in = IN, text = "for that its HOUSE owes its premium * REINSTATED / limit, cut")
    static void thePremiumAtItsLargest() {
        CoverHouses x = Edges.told(Edges.ABC + "layer l of a:999999 over 0 1000 to b again 9 at 999999;");
        for (int i = 0; i < 10; i++) {
            x.loss(0, 0, 0, 0, 0, 100000);
        }
        Edges.due("REINSTATED", x.treaty(0, 0, 3), 999999);
        Edges.due("premium", x.treaty(0, 0, 4), 999999);
        CoverHouses y = apart("layer l of a:1 over 0 1000 to b again 9 at 999999;", 1, 1, 1, 1, 1, 1, 1, 1, 1, 1, 1);
        Edges.due("of nine EVENTS", y.owed(0, 1), 9 * 999999);
        Edges.due("of the tenth", y.treaty(9, 0, 4), 0);
        Edges.due("USE of the tenth", y.treaty(9, 0, 1), 1);
        Edges.due("USE of the eleventh", y.treaty(10, 0, 1), 0);
    }

    @Says(in = IN, text = "of which each PART's HOUSE gets N / 1000, cut.")
    static void eachPartOfThePremiumIsCut() {
        CoverHouses x = apart("layer l of a:100 over 0 333 to b and 667 to c again 9 at 100;", 1, 2, 3, 100);
        Edges.due("333 thousandths of 1, 2, 3 and 100", x.owed(0, 1), 33);
        Edges.due("667 thousandths of them", x.owed(0, 2), 1 + 2 + 66);
        CoverHouses y = apart("layer l of a:100 over 0 1 to b again 9 at 999;", 100);
        Edges.due("a thousandth of 999", y.owed(0, 1), 0);
        Edges.due("the premium is told whole", y.treaty(0, 0, 4), 999);
    }

    @Says(in = IN, text = "of which each PART's HOUSE gets N / 1000, cut.")
    static void allElevenOthersMayHaveAPartOfThePremium() {
        StringBuilder text = new StringBuilder(Edges.houses(12) + "layer l of ha:100 over 0 90 to hb");
        for (int i = 2; i < 12; i++) {
            text.append(" and 91 to h").append((char) ('a' + i));
        }
        CoverHouses x = Edges.told(text + " again 1 at 1000;");
        x.loss(0, 0, 0, 0, 0, 100);
        Edges.due("the first PART", x.owed(1, 0), 9);
        Edges.due("its part of the premium", x.owed(0, 1), 90);
        for (int house = 2; house < 12; house++) {
            Edges.due("PART " + house, x.owed(house, 0), 9);
            Edges.due("its part of the premium", x.owed(0, house), 91);
        }
        x.commute(0, 1000);
        Edges.due("the first PART of the sum", x.owed(1, 0), 90);
        Edges.due("the last one", x.owed(11, 0), 91);
    }

    // ---- COMMUTED

    @Says(in = IN, text = "COMMUTED: a treaty by a sum (0 to 999999), once, on a DAY (NOW):")
    static void aTreatyIsCommutedOnceByASumWithinItsEnds() {
        CoverHouses x = Edges.told(Edges.ABC + "share s of a:1000 to b;share t of a:1000 to b;");
        Edges.refused("-1", x.commute(0, -1));
        Edges.refused("1000000", x.commute(0, 1000000));
        Edges.due("COMMUTED", x.count(7), 0);
        Edges.taken("0", x.commute(0, 0));
        Edges.taken("999999", x.commute(1, 999999));
        Edges.refused("once more", x.commute(0, 5));
        Edges.refused("the other once more", x.commute(1, 0));
        Edges.due("owed", x.owed(1, 0), 999999);
    }

    @Says(in = IN, text = "COMMUTED: a treaty by a sum (0 to 999999), once, on a DAY (NOW):")
    static void itIsCommutedOnNowAndNotOnTheView() {
        CoverHouses x = Edges.told(A_TO_B, 5);
        x.view(2);
        Edges.taken("at an earlier VIEW", x.commute(0, 50));
        Edges.due("not by that VIEW", x.owed(1, 0), 0);
        Edges.refused("once, though THE VIEW doesn't know it", x.commute(0, 60));
        x.view(4);
        Edges.due("not a DAY ahead", x.count(7), 0);
        x.view(5);
        Edges.due("on NOW", x.owed(1, 0), 50);
    }

    @Says(in = IN, text = "each PART's HOUSE owes the treaty's sum * N / 1000, cut.")
    static void eachPartOfTheSumIsCut() {
        int[] sums = {999, 1000, 1001, 999999};
        int[] b = {0, 1, 1, 999};
        int[] c = {998, 999, 999, 998999};
        for (int i = 0; i < 4; i++) {
            CoverHouses x = apart("layer l of a:5 over 0 1 to b and 999 to c again 9 at 100;");
            x.commute(0, sums[i]);
            Edges.due("1 thousandth of " + sums[i], x.owed(1, 0), b[i]);
            Edges.due("999 thousandths of " + sums[i], x.owed(2, 0), c[i]);
            Edges.due("bears", x.bears(0), -b[i] - c[i]);
        }
    }

    // ---- OWED and BEARS

    @Says(in = IN, text = "OWED a to b: all that a owes b by PARTS, premiums, commuted sums.")
    static void owedIsOfPartsPremiumsAndCommutedSums() {
        CoverHouses x = apart("share s of a:100 to b;layer l of b:50 over 0 1000 to a again 1 at 10;share t of a:1 to b;",
                1000, 500);
        x.commute(2, 30000);
        // PARTS of 100 and 50, each passed back by the layer, a premium of 10 for 50 alone, and 30 of the sum.
        Edges.due("a has of its own 1000 and 50", x.gross(0, 0, 1), 1050);
        Edges.due("b to a", x.owed(1, 0), 105 + 55 + 10 + 30);
        Edges.due("a to b", x.owed(0, 1), 100);
    }

    @Says(in = IN, text = "OWED a to b: all that a owes b by PARTS, premiums, commuted sums.")
    static void owedAtItsLargest() {
        Both both = new Both("house a;house b;event 0 hours 1 miles 0;share s of a:993 to b;share t of b:993 to a;"
                + "layer l of a own:1 over 0 1000 to b again 9 at 999999;share u of b:1 to a;share v of b:1 to a;", 9);
        for (int i = 0; i < 60; i++) {
            both.loss(0, i, 0, 0, 100000);
        }
        both.commute(3, 999999);
        both.compareOwed();
        Edges.need("hundreds of millions", both.fast.owed(1, 0) > 400000000 && both.fast.owed(0, 1) > 400000000);
    }

    @Says(in = IN, text = "BEARS of a HOUSE: its DIRECT of all EVENTS, and what it owes, less what is OWED to it.")
    static void bearsIsDirectOfAllEventsAndWhatIsOwed() {
        CoverHouses x = apart("share s of a:1000 to b;share t of b:500 to c;", 100, 11);
        Edges.due("a", x.bears(0), 0);
        Edges.due("b", x.bears(1), 50 + 6);
        Edges.due("c", x.bears(2), 50 + 5);
        x.loss(1, 0, 0, 7, 0, 9);
        Edges.due("with DIRECT of another EVENT", x.bears(1), 56 + 9 - 4);
    }

    @Says(in = IN, text = "BEARS of a HOUSE: its DIRECT of all EVENTS, and what it owes, less what is OWED to it.")
    static void bearsMayBeBelow0() {
        CoverHouses x = Edges.told(A_TO_B);
        x.commute(0, 999999);
        Edges.due("a", x.bears(0), -999999);
        Edges.due("b", x.bears(1), 999999);
        CoverHouses y = apart("layer l of a:10 over 0 1000 to b again 9 at 999999;", 1);
        Edges.due("b gains by a premium", y.bears(1), 1 - 99999);
    }

    // ---- what a HOUSE wants, and the worst

    @Says(in = IN, text = "THE SPLIT a HOUSE wants: of none, and one at any LOSS that counts (besides those told), that with which it "
            + "BEARS least;")
    static void theSplitAHouseWantsIsTheOneWithWhichItBearsLeast() {
        CoverHouses x = Edges.told(Edges.ABC + "layer l of a:100 over 0 1000 to b again 9 at 0;", 5);
        int[] amounts = {10, 20, 30, 90, 95};
        for (int i = 0; i < 5; i++) {
            x.loss(0, i, 0, 0, 0, amounts[i]);
        }
        // At 4: 100 of 150 and 95. At 3: 60 and 100. At 2: 30 and 100.
        Edges.due("at the last", x.wants(0), 4);
        Edges.due("b wants none: that is 100 alone", x.wants(1), Edges.NONE);
        x.split(4, true);
        // Besides 4: at 3: 60, 90 and 95. At 2: 30, 100 and 95. At 1: 10, 100 and 95.
        Edges.due("besides the one told", x.wants(0), 3);
        Edges.due("b would none more", x.wants(1), Edges.NONE);
        Edges.due("wanting changes nothing", x.events(), 2);
    }

    @Says(in = IN, text = "one at any LOSS that counts")
    static void noSplitIsWantedAtALossThatDoesNotCount() {
        CoverHouses x = Edges.told(Edges.ABC + "layer l of a:100 over 0 1000 to b again 9 at 0;", 5);
        x.loss(0, 0, 0, 0, 0, 90);
        x.loss(0, 1, 0, 0, 1, 90);
        Edges.due("it counts", x.wants(0), 1);
        x.leave(1, true);
        Edges.due("its storm is left out", x.wants(0), Edges.NONE);
        x.leave(1, false);
        x.word(1, 0);
        Edges.due("its amount is 0", x.wants(0), Edges.NONE);
        Edges.due("none without any LOSS", Edges.told(Edges.ABC).wants(0), Edges.NONE);
    }

    @Says(in = IN, text = "of equal ones none, then the least LOSS.")
    static void ofEqualOnesNoneThenTheLeastLossIsWanted() {
        CoverHouses x = Edges.told(Edges.ABC + "layer l of a:100 over 0 1000 to b again 9 at 0;", 5);
        x.loss(0, 3, 0, 0, 0, 60);
        x.loss(0, 0, 0, 0, 0, 40);
        Edges.due("none is as good", x.wants(0), Edges.NONE);
        x.loss(0, 2, 0, 0, 0, 60);
        x.loss(0, 1, 0, 0, 0, 40);
        // By HOUR 40, 40, 60, 60 of LOSSES 1, 3, 2, 0: at 2 100 of 80 .. 80 and 100; at 0 100 and 60; at 3 40 and 100.
        Edges.due("by HOUR the third", x.wants(0), 2);
        x.word(1, 100);
        x.word(3, 100);
        x.word(2, 100);
        x.word(0, 100);
        Edges.due("the least LOSS of three that are equal", x.wants(0), 0);
    }

    @Says(in = IN, text = "WORST of a HOUSE by k storms (1 to 6): of all sets of k storms at most")
    static void theWorstOf1To6Storms() {
        CoverHouses x = Edges.told("house a;");
        for (int storm = 0; storm <= 5; storm++) {
            x.loss(0, 0, 0, 0, storm, 10 + storm);
        }
        int[] worst = {32, 48, 56, 60, 62, 63};
        for (int k = 1; k <= 6; k++) {
            Edges.due("by " + k, x.worst(0, k), worst[k - 1]);
        }
        Edges.due("0", x.worst(0, 0), Edges.NONE);
        Edges.due("7", x.worst(0, 7), Edges.NONE);
    }

    @Says(in = IN, text = "WORST of a HOUSE by k storms (1 to 6): of all sets of k storms at most")
    static void theWorstMayBeNoStormAtAll() {
        CoverHouses x = Edges.told(Edges.ABC + "layer l of a:10 over 0 1000 to b again 9 at 999999;");
        x.loss(0, 0, 0, 0, 4, 1);
        Edges.due("b gains by it", x.worst(1, 6), 0);
        Edges.due("a bears it", x.worst(0, 1), 16);
        Edges.due("c has no part in it", x.worst(2, 6), 0);
    }

    @Says(in = IN, text = "(the others left out, but those left out stay so)")
    static void stormsThatAreLeftOutStaySo() {
        CoverHouses x = Edges.told("house a;");
        for (int storm = 0; storm <= 5; storm++) {
            x.loss(0, 0, 0, 0, storm, 10 + storm);
        }
        x.leave(5, true);
        x.leave(0, true);
        Edges.due("by 1", x.worst(0, 1), 16);
        Edges.due("by 6", x.worst(0, 6), 30);
        Edges.due("they are left out still", x.event(0, 4), 11 + 12 + 13 + 14);
        for (int storm = 1; storm <= 4; storm++) {
            x.leave(storm, true);
        }
        Edges.due("all are left out", x.worst(0, 6), 0);
    }

    @Says(in = IN, text = "that with which it BEARS most;")
    static void theWorstIsNotAlwaysTheMostStorms() {
        // Together the two are an EVENT with hit 2, in which the layer pays all.
        CoverHouses x = Edges.told(Edges.ABC + "share s of a:1000 to b when hit=2;");
        x.loss(0, 0, 0, 0, 2, 50);
        x.loss(2, 0, 0, 0, 3, 7);
        Edges.due("a alone", x.worst(0, 6), 4);
        Edges.due("both for b", x.worst(1, 6), 12);
        Edges.due("b has none by one", x.worst(1, 1), 0);
    }

    @Says(in = IN, text = "of equal ones that of the fewest, then the least number (bits).")
    static void ofEqualOnesTheFewestThenTheLeastNumber() {
        CoverHouses x = Edges.told(Edges.ABC);
        x.loss(0, 0, 0, 0, 5, 10);
        x.loss(0, 0, 0, 0, 4, 10);
        x.loss(0, 0, 0, 0, 1, 10);
        x.loss(1, 0, 0, 0, 0, 10);
        Edges.due("the least of three", x.worst(0, 1), 2);
        Edges.due("the least two", x.worst(0, 2), 2 + 16);
        Edges.due("the fewest: storm 0 adds nothing for a", x.worst(0, 6), 2 + 16 + 32);
        CoverHouses y = Edges.told(Edges.ABC + "share s of a own:1000 to c when not(hit=2);");
        y.loss(0, 0, 0, 0, 0, 10);
        y.loss(1, 0, 0, 0, 1, 1);
        Edges.due("both, though one alone is as good as none", y.worst(0, 6), 3);
        Edges.due("by one all are equal", y.worst(0, 1), 0);
    }
}
