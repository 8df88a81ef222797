import java.io.IOException;

/** ==== 1: DAYS, HOURS, HOUSES, LOSSES, words and THE VIEW. */
public final class Terms1EdgesTest {
    private static final String IN = "Terms 1";
    private static final int LAST_DAY = 9999;
    private static final int LAST_HOUR = 239999;

    private Terms1EdgesTest() {
    }

    public static void main(String[] args) throws IOException, ReflectiveOperationException {
        Edges.runAll(Terms1EdgesTest.class);
    }

    @Says(in = IN, text = "DAYS are 0 to 9999")
    static void theLastDayIsReached() {
        CoverHouses x = Edges.newOn(9000);
        Edges.due("to the last DAY", x.days(999), LAST_DAY);
        Edges.due("NOW", x.count(4), LAST_DAY);
        Edges.taken("the last DAY as THE VIEW", x.view(LAST_DAY));
        Edges.due("THE VIEW", x.count(5), LAST_DAY);
    }

    @Says(in = IN, text = "DAYS are 0 to 9999")
    static void noDayIsBehindTheLast() {
        CoverHouses x = Edges.newOn(LAST_DAY);
        Edges.due("one more", x.days(1), Edges.NONE);
        Edges.due("1000 more", x.days(1000), Edges.NONE);
        Edges.due("NOW", x.count(4), LAST_DAY);
        Edges.due("1000 on DAY 9000", Edges.newOn(9000).days(1000), Edges.NONE);
        Edges.due("1000 on DAY 8999", Edges.newOn(8999).days(1000), LAST_DAY);
    }

    @Says(in = IN, text = "NOW is one, 0 at first.")
    static void nowIsZeroAtFirst() {
        CoverHouses x = new CoverHouses();
        Edges.due("NOW", x.count(4), 0);
        Edges.due("0 DAYS pass", x.days(0), 0);
    }

    @Says(in = IN, text = "HOURS are 0 to 239999")
    static void theFirstHourIsTaken() {
        CoverHouses x = new CoverHouses();
        Edges.due("-1", x.loss(0, -1, 0, 0, 0, 1), Edges.NONE);
        Edges.due("the least int", x.loss(0, Integer.MIN_VALUE, 0, 0, 0, 1), Edges.NONE);
        Edges.due("0", x.loss(0, 0, 0, 0, 0, 1), 0);
        Edges.due("LOSSES", x.count(2), 1);
    }

    @Says(in = IN, text = "HOURS are 0 to 239999")
    static void theLastHourIsTaken() {
        CoverHouses x = Edges.newOn(LAST_DAY);
        Edges.due("240000", x.loss(0, LAST_HOUR + 1, 0, 0, 0, 1), Edges.NONE);
        Edges.due("the greatest int", x.loss(0, Integer.MAX_VALUE, 0, 0, 0, 1), Edges.NONE);
        Edges.due("239999", x.loss(0, LAST_HOUR, 0, 0, 0, 1), 0);
        Edges.due("it is kept", x.look(0, 1), LAST_HOUR);
    }

    @Says(in = IN, text = "(24 a DAY, HOUR / 24)")
    static void aDayHas24Hours() {
        String wording = Edges.ABC + "share s of a:1000 to b when day = 1;event 0 hours 1 miles 0;";
        CoverHouses x = Edges.told(wording, 2);
        for (int hour = 23; hour <= 24; hour++) {
            x.loss(0, hour, 0, 0, 0, 1);
        }
        for (int hour = 47; hour <= 48; hour++) {
            x.loss(0, hour, 0, 0, 0, 1);
        }
        Edges.due("HOUR 23 is of DAY 0", x.gross(0, 1, 1), 0);
        Edges.due("HOUR 24 is of DAY 1", x.gross(1, 1, 1), 1);
        Edges.due("HOUR 47 is of DAY 1", x.gross(2, 1, 1), 1);
        Edges.due("HOUR 48 is of DAY 2", x.gross(3, 1, 1), 0);
    }

    @Says(in = IN, text = "the YEAR of a DAY is DAY / 365.")
    static void aYearHas365Days() {
        CoverHouses x = Edges.newOn(730);
        x.loss(0, 364 * 24 + 23, 0, 0, 0, 1);
        x.loss(0, 365 * 24, 0, 0, 0, 10);
        x.loss(0, 729 * 24 + 23, 0, 0, 0, 100);
        x.loss(0, 730 * 24, 0, 0, 0, 1000);
        Edges.pass(x, 1000);
        Edges.due("told behind its YEAR", x.known(0, 0, 0), 0);
        Edges.due("YEAR 0", x.known(0, 0, 1), 0);
        Edges.due("YEAR 0, told on DAY 730", x.known(0, 0, 2), 1);
        Edges.due("YEAR 1", x.known(0, 1, 1), 110);
        Edges.due("YEAR 2", x.known(0, 2, 0), 1000);
    }

    @Says(in = IN, text = "the YEAR of a DAY is DAY / 365.")
    static void theLastDaysAreOfYear27() {
        CoverHouses x = Edges.newOn(27 * 365 - 1);
        x.loss(0, (27 * 365 - 1) * 24 + 23, 0, 0, 0, 7);
        x.days(1);
        x.loss(0, 27 * 365 * 24, 0, 0, 0, 100);
        Edges.due("YEAR 26", x.known(0, 26, 0), 7);
        x.days(LAST_DAY - 27 * 365);
        Edges.due("the rest is of no YEAR that is told", x.known(0, 27, 0), Edges.NONE);
        Edges.due("FORETOLD of YEAR 27", x.foretold(0, 27), Edges.NONE);
        Edges.due("FORETOLD of YEAR 26", x.foretold(0, 26), 7);
    }

    @Says(in = IN, text = "HOUSES, 12 at most, are told by the wording")
    static void twelveHousesAreTold() {
        CoverHouses x = Edges.told(Edges.houses(12));
        Edges.due("HOUSES", x.count(0), 12);
        x.loss(11, 0, 0, 0, 0, 5);
        Edges.due("the last one has DIRECT", x.gross(0, 11, 0), 5);
        Edges.due("the last one bears it", x.bears(11), 5);
        Edges.due("there is no other", x.gross(0, 12, 0), Edges.NONE);
    }

    @Says(in = IN, text = "HOUSES, 12 at most, are told by the wording")
    static void aThirteenthHouseIsNot() {
        CoverHouses x = new CoverHouses();
        String text = Edges.houses(12);
        Edges.due("13", Signs.wording(x, text + "house x;"), 5 + 16 * text.length());
        Edges.due("none is told", x.count(0), 0);
    }

    @Says(in = IN, text = "HOUSES, 12 at most, are told by the wording")
    static void withoutAWordingThereAreNoHouses() {
        CoverHouses x = new CoverHouses();
        x.loss(0, 0, 0, 0, 0, 5);
        Edges.due("HOUSES", x.count(0), 0);
        Edges.due("EVENTS", x.events(), 0);
        Edges.due("LOSSES that count", x.count(6), 0);
        Edges.due("HOUSES that FAILED", x.count(8), 0);
        Edges.due("wants", x.wants(0), Edges.NONE);
        Edges.due("worst", x.worst(0, 1), Edges.NONE);
        Edges.throwsNoSuchElement("bears", () -> x.bears(0));
        Edges.throwsNoSuchElement("owed", () -> x.owed(0, 1));
        Edges.throwsNoSuchElement("clears", () -> x.clears(0, 0));
    }

    @Says(in = IN, text = "numbered in its order.")
    static void housesAreNumberedInTheOrderOfTheWording() {
        CoverHouses x = Edges.told("house z;house m;share s of m:500 to z;house a;");
        x.loss(1, 0, 0, 0, 0, 10);
        Edges.due("z is 0", x.gross(0, 0, 1), 5);
        Edges.due("m is 1", x.gross(0, 1, 2), 5);
        Edges.due("a is 2", x.gross(0, 2, 1), 0);
        Edges.due("a is the last", x.gross(0, 3, 1), Edges.NONE);
    }

    @Says(in = IN, text = "LOSSES, 60 at most")
    static void sixtyLossesAreTaken() {
        CoverHouses x = Edges.told("house a;");
        for (int i = 0; i < 60; i++) {
            Edges.due("LOSS", x.loss(0, 0, 0, 0, 0, 1), i);
        }
        Edges.due("LOSSES", x.count(2), 60);
        Edges.due("they all count", x.event(0, 1), 60);
        Edges.due("of the last one", x.eventOf(59), 0);
    }

    @Says(in = IN, text = "LOSSES, 60 at most")
    static void aSixtyFirstLossIsRefused() {
        CoverHouses x = Edges.told("house a;");
        for (int i = 0; i < 60; i++) {
            x.loss(0, 0, 0, 0, 0, 1);
        }
        Edges.due("61", x.loss(0, 0, 0, 0, 0, 100), Edges.NONE);
        Edges.due("LOSSES", x.count(2), 60);
        Edges.due("words", x.count(3), 60);
        Edges.due("DIRECT", x.event(0, 4), 60);
        Edges.throwsNoSuchElement("look at it", () -> x.look(60, 0));
        Edges.refused("a word of it", x.word(60, 1));
        Edges.taken("a word of the 60th", x.word(59, 2));
    }

    private static void lossTakes(int[] numbers, int[] back) {
        CoverHouses x = Edges.newOn(LAST_DAY);
        Edges.due("LOSS", x.loss(numbers[0], numbers[1], numbers[2], numbers[3], numbers[4], numbers[5]), 0);
        for (int what = 0; what <= 5; what++) {
            Edges.due("look " + what, x.look(0, what), back[what]);
        }
    }

    /** One of the six numbers at its least, its most, and one beyond both. */
    private static void ends(int which, int least, int most) {
        for (int n : new int[] {least, most}) {
            int[] numbers = {3, 4, 5, 2, 1, 6};
            numbers[which] = n;
            lossTakes(numbers, numbers);
        }
        for (int n : new int[] {least - 1, most + 1, Integer.MIN_VALUE, Integer.MAX_VALUE}) {
            int[] numbers = {3, 4, 5, 2, 1, 6};
            numbers[which] = n;
            CoverHouses x = Edges.newOn(LAST_DAY);
            Edges.due("number " + n, x.loss(numbers[0], numbers[1], numbers[2], numbers[3], numbers[4], numbers[5]),
                    Edges.NONE);
            Edges.due("LOSSES", x.count(2), 0);
            Edges.due("words", x.count(3), 0);
        }
    }

    @Says(in = IN, text = "of a HOUSE number (0 to 11)")
    static void aLossIsOfHouse0To11() {
        ends(0, 0, 11);
    }

    @Says(in = IN, text = "an HOUR (of a DAY not behind NOW)")
    static void theLastHourOfNowIsTakenTheNextIsNot() {
        CoverHouses x = Edges.newOn(5);
        Edges.due("the first HOUR of the next DAY", x.loss(0, 6 * 24, 0, 0, 0, 1), Edges.NONE);
        Edges.due("the last HOUR of NOW", x.loss(0, 6 * 24 - 1, 0, 0, 0, 1), 0);
        Edges.due("the first HOUR of all", x.loss(0, 0, 0, 0, 0, 1), 1);
        x.days(1);
        Edges.due("the next DAY has come", x.loss(0, 6 * 24, 0, 0, 0, 1), 2);
    }

    @Says(in = IN, text = "an HOUR (of a DAY not behind NOW)")
    static void itIsNowAndNotTheViewThatBoundsTheHour() {
        CoverHouses x = Edges.newOn(5);
        x.view(1);
        Edges.due("of NOW", x.loss(0, 5 * 24, 0, 0, 0, 1), 0);
        Edges.due("behind NOW", x.loss(0, 6 * 24, 0, 0, 0, 1), Edges.NONE);
    }

    @Says(in = IN, text = "a place (0 to 999 miles along a coast)")
    static void aPlaceIs0To999() {
        ends(2, 0, 999);
    }

    @Says(in = IN, text = "a cause (0 to 7)")
    static void aCauseIs0To7() {
        ends(3, 0, 7);
    }

    @Says(in = IN, text = "a storm (0 to 5)")
    static void aStormIs0To5() {
        ends(4, 0, 5);
    }

    @Says(in = IN, text = "an amount (0 to 100000).")
    static void anAmountIs0To100000() {
        ends(5, 0, 100000);
    }

    @Says(in = IN, text = "It is told on a DAY (NOW)")
    static void aLossIsToldOnNowWhateverItsHour() {
        CoverHouses x = Edges.told("house a;", 4);
        x.loss(0, 0, 0, 0, 0, 9);
        x.days(3);
        x.view(3);
        Edges.due("a DAY ahead", x.look(0, 5), Edges.NONE);
        Edges.due("no EVENT then", x.events(), 0);
        x.view(4);
        Edges.due("on the DAY", x.look(0, 5), 9);
        Edges.due("an EVENT then", x.events(), 1);
    }

    @Says(in = IN, text = "It is told on a DAY (NOW)")
    static void aLossIsToldOnNowAndNotOnTheView() {
        CoverHouses x = Edges.newOn(4);
        x.view(2);
        x.loss(0, 0, 0, 0, 0, 9);
        Edges.due("by THE VIEW", x.look(0, 5), Edges.NONE);
        x.view(3);
        Edges.due("a DAY ahead of NOW", x.look(0, 5), Edges.NONE);
        x.view(4);
        Edges.due("on NOW", x.look(0, 5), 9);
    }

    @Says(in = IN, text = "a later word gives it another amount from its DAY (NOW) on")
    static void aWordHoldsFromItsDayOn() {
        CoverHouses x = Edges.told("house a;");
        x.loss(0, 0, 0, 0, 0, 10);
        x.days(5);
        x.word(0, 20);
        x.days(5);
        x.view(4);
        Edges.due("a DAY ahead of the word", x.gross(0, 0, 0), 10);
        x.view(5);
        Edges.due("on its DAY", x.gross(0, 0, 0), 20);
        x.view(10);
        Edges.due("later", x.gross(0, 0, 0), 20);
    }

    @Says(in = IN, text = "(300 words at most, the first ones too).")
    static void threeHundredWordsWithTheFirstOnes() {
        CoverHouses x = new CoverHouses();
        for (int i = 0; i < 60; i++) {
            x.loss(0, 0, 0, 0, 0, 1);
        }
        for (int i = 0; i < 240; i++) {
            Edges.taken("word", x.word(i % 60, 2));
        }
        Edges.due("words", x.count(3), 300);
        Edges.refused("one more", x.word(0, 3));
        Edges.due("words still", x.count(3), 300);
        Edges.due("the amount is as it was", x.look(0, 5), 2);
    }

    @Says(in = IN, text = "(300 words at most, the first ones too).")
    static void theFirstWordOfALossMayBeThe300th() {
        CoverHouses x = new CoverHouses();
        x.loss(0, 0, 0, 0, 0, 1);
        for (int i = 1; i < 299; i++) {
            x.word(0, i);
        }
        Edges.due("words", x.count(3), 299);
        Edges.due("a LOSS with the 300th", x.loss(0, 0, 0, 0, 0, 7), 1);
        Edges.due("a LOSS with one more", x.loss(0, 0, 0, 0, 0, 7), Edges.NONE);
        Edges.refused("a word more", x.word(1, 8));
        Edges.due("LOSSES", x.count(2), 2);
        Edges.due("words", x.count(3), 300);
        Edges.due("its amount", x.look(1, 5), 7);
    }

    @Says(in = IN, text = "THE VIEW is a DAY: all that is told below is as known on it:")
    static void allIsAsKnownOnTheView() {
        CoverHouses x = Edges.told(Edges.ABC + "layer l of a:100 over 50 1000 to b again 1 at 10;");
        x.loss(0, 0, 0, 0, 0, 70);
        x.purse(1, 20);
        x.days(1);
        x.word(0, 150);
        x.loss(2, 24, 0, 1, 3, 9);
        x.days(1);
        x.commute(0, 77);
        int[] events = {1, 2, 2};
        int[] owed = {20, 100, 77};
        int[] premium = {2, 10, 0};
        int[] left = {180, 100, 200};
        int[] bears = {52, 60, 73};
        int[] pays = {18, 20, 20};
        int[] failed = {1, 3, 3};
        for (int day = 0; day <= 2; day++) {
            x.view(day);
            Edges.due("EVENTS on " + day, x.events(), events[day]);
            Edges.due("owed on " + day, x.owed(1, 0), owed[day]);
            Edges.due("premium on " + day, x.treaty(0, 0, 4), premium[day]);
            Edges.due("left on " + day, x.left(0), left[day]);
            Edges.due("bears on " + day, x.bears(0), bears[day]);
            Edges.due("pays on " + day, x.clears(1, 1), pays[day]);
            Edges.due("FAILED on " + day, x.count(8), failed[day]);
            Edges.due("worst of c on " + day, x.worst(2, 1), day == 0 ? 0 : 8);
        }
    }

    @Says(in = IN, text = "LOSSES told on it or ahead")
    static void aLossToldOnTheViewIsKnownOneToldBehindItIsNot() {
        CoverHouses x = Edges.told("house a;", 3);
        x.loss(0, 0, 0, 0, 0, 1);
        x.days(1);
        x.loss(0, 0, 0, 0, 0, 10);
        x.view(2);
        Edges.due("LOSSES that count on 2", x.count(6), 0);
        x.view(3);
        Edges.due("LOSSES that count on 3", x.count(6), 1);
        x.view(4);
        Edges.due("LOSSES that count on 4", x.count(6), 2);
        x.view(0);
        Edges.due("on the first DAY", x.eventOf(0), Edges.NONE);
    }

    @Says(in = IN, text = "with the amount of the latest word then")
    static void ofTwoWordsOfOneDayTheLaterOneHolds() {
        CoverHouses x = Edges.told("house a;");
        x.loss(0, 0, 0, 0, 0, 10);
        x.word(0, 30);
        x.word(0, 20);
        x.days(1);
        x.word(0, 0);
        x.word(0, 40);
        x.days(1);
        x.word(0, 0);
        x.view(0);
        Edges.due("on DAY 0", x.look(0, 5), 20);
        x.view(1);
        Edges.due("on DAY 1", x.look(0, 5), 40);
        x.view(2);
        Edges.due("on DAY 2", x.look(0, 5), 0);
        Edges.due("an amount of 0 makes no EVENT", x.events(), 0);
    }

    @Says(in = IN, text = "treaties commuted on it or ahead.")
    static void aTreatyIsCommutedFromItsDayOn() {
        CoverHouses x = Edges.told(Edges.ABC + "share s of a:1000 to b;");
        x.loss(0, 0, 0, 0, 0, 10);
        x.days(3);
        x.commute(0, 4);
        x.days(1);
        x.view(2);
        Edges.due("a DAY ahead", x.owed(1, 0), 10);
        Edges.due("COMMUTED a DAY ahead", x.count(7), 0);
        x.view(3);
        Edges.due("on its DAY", x.owed(1, 0), 4);
        Edges.due("COMMUTED on its DAY", x.count(7), 1);
        x.view(4);
        Edges.due("later", x.owed(1, 0), 4);
    }

    @Says(in = IN, text = "It is NOW until another one is told")
    static void theViewGoesOnWithNowUntilAnotherIsTold() {
        CoverHouses x = new CoverHouses();
        Edges.due("at first", x.count(5), 0);
        x.days(7);
        Edges.due("with NOW", x.count(5), 7);
        x.view(6);
        x.days(2);
        Edges.due("another one stays", x.count(5), 6);
    }

    @Says(in = IN, text = "and NOW again if that is told.")
    static void theViewIsNowAgainIfThatIsTold() {
        CoverHouses x = Edges.newOn(5);
        x.view(0);
        x.days(1);
        Edges.due("another one", x.count(5), 0);
        x.view(6);
        x.days(3);
        Edges.due("NOW again", x.count(5), 9);
        CoverHouses y = new CoverHouses();
        y.view(0);
        y.days(1);
        Edges.due("DAY 0 is NOW at first", y.count(5), 1);
    }

    @Says(in = IN, text = "SPLITS, storms left out and the wording are as they are.")
    static void splitsStormsAndWordingAreAsTheyAreOnAnyView() {
        CoverHouses x = Edges.told("house a;");
        x.loss(0, 0, 0, 0, 0, 1);
        x.loss(0, 1, 0, 0, 1, 2);
        x.loss(1, 2, 0, 0, 2, 4);
        x.days(9);
        x.view(0);
        Edges.due("one EVENT", x.events(), 1);
        x.split(1, true);
        Edges.due("a SPLIT told later", x.events(), 2);
        x.leave(0, true);
        Edges.due("a storm left out later", x.events(), 1);
        Signs.wording(x, "house a;house b;event 0 hours 1 miles 0;");
        Edges.due("a wording told later", x.events(), 2);
        x.view(9);
        Edges.due("and now", x.events(), 2);
    }
}
