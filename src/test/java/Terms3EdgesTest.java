import java.io.IOException;

/** ==== 3: which LOSSES count, and which EVENT each joins or begins. */
public final class Terms3EdgesTest {
    private static final String IN = "Terms 3";
    private static final String TEN_HOURS = "house a;event 0 hours 10 miles 5;";

    private Terms3EdgesTest() {
    }

    public static void main(String[] args) throws IOException, ReflectiveOperationException {
        Edges.runAll(Terms3EdgesTest.class);
    }

    private static void at(CoverHouses x, int hour, int place) {
        x.loss(0, hour, place, 0, 0, 1);
    }

    @Says(in = IN, text = "EVENTS: of the LOSSES that count (amount above 0")
    static void anAmountOf1CountsOneOf0DoesNot() {
        CoverHouses x = Edges.told("house a;");
        x.loss(0, 0, 0, 0, 0, 0);
        Edges.due("0", x.events(), 0);
        Edges.due("it is in none", x.eventOf(0), Edges.NONE);
        x.word(0, 1);
        Edges.due("1", x.events(), 1);
        x.word(0, 0);
        Edges.due("0 again", x.events(), 0);
    }

    @Says(in = IN, text = "of the LOSSES that count (amount above 0")
    static void aLossOf0BeginsNoEventForOthers() {
        CoverHouses x = Edges.told(TEN_HOURS, 3);
        at(x, 0, 0);
        at(x, 9, 0);
        at(x, 18, 0);
        Edges.due("the third is too late for the first", x.eventOf(2), 1);
        x.word(0, 0);
        Edges.due("the second begins it now", x.event(0, 0), 1);
        Edges.due("the third joins", x.eventOf(2), 0);
    }

    @Says(in = IN, text = "the HOUSE told")
    static void theHouseMustBeTold() {
        CoverHouses x = Edges.told(Edges.houses(5));
        x.loss(4, 0, 0, 0, 0, 1);
        x.loss(5, 0, 0, 0, 0, 1);
        Edges.due("the last HOUSE", x.eventOf(0), 0);
        Edges.due("one behind it", x.eventOf(1), Edges.NONE);
        Edges.due("LOSSES that count", x.count(6), 1);
    }

    @Says(in = IN, text = "the storm not left out)")
    static void theStormMustNotBeLeftOut() {
        CoverHouses x = Edges.told(TEN_HOURS, 3);
        for (int storm = 0; storm <= 5; storm++) {
            x.loss(0, storm, 0, 0, storm, 1 << storm);
        }
        for (int storm = 0; storm <= 5; storm++) {
            x.leave(storm, true);
            Edges.due("without storm " + storm, x.event(0, 4), 63 - (1 << storm));
            Edges.due("its LOSS", x.eventOf(storm), Edges.NONE);
            x.leave(storm, false);
        }
        Edges.due("all", x.event(0, 4), 63);
        for (int storm = 0; storm <= 5; storm++) {
            x.leave(storm, true);
        }
        Edges.due("without any", x.events(), 0);
    }

    @Says(in = IN, text = "by HOUR, of one HOUR by numbers:")
    static void lossesGoByHour() {
        CoverHouses x = Edges.told(TEN_HOURS, 3);
        at(x, 30, 0);
        at(x, 29, 0);
        at(x, 1, 0);
        at(x, 0, 0);
        at(x, 31, 0);
        Edges.due("EVENTS", x.events(), 2);
        Edges.due("the first begins with HOUR 0", x.event(0, 0), 3);
        Edges.due("the second with HOUR 29", x.event(1, 0), 1);
        Edges.due("LOSSES of the second", x.event(1, 1), 3);
    }

    @Says(in = IN, text = "by HOUR, of one HOUR by numbers:")
    static void lossesOfOneHourGoByNumbers() {
        CoverHouses x = Edges.told(TEN_HOURS, 3);
        at(x, 7, 6);
        at(x, 7, 0);
        at(x, 7, 3);
        Edges.due("the least number begins", x.event(0, 0), 0);
        Edges.due("the next one is too far", x.event(1, 0), 1);
        Edges.due("the third joins what began latest", x.eventOf(2), 1);
    }

    @Says(in = IN, text = "each joins the EVENT of its cause")
    static void eachCauseHasItsOwnEvents() {
        CoverHouses x = Edges.told("house a;");
        for (int cause = 0; cause <= 7; cause++) {
            x.loss(0, 0, 0, cause, 0, 1);
        }
        for (int cause = 0; cause <= 7; cause++) {
            x.loss(0, 0, 0, cause, 0, 1);
        }
        Edges.due("EVENTS", x.events(), 8);
        for (int cause = 0; cause <= 7; cause++) {
            Edges.due("the second of cause " + cause, x.eventOf(8 + cause), cause);
        }
    }

    @Says(in = IN, text = "that began latest of those")
    static void ofSeveralItJoinsTheOneThatBeganLatest() {
        CoverHouses x = Edges.told(TEN_HOURS, 3);
        at(x, 0, 0);
        at(x, 1, 6);
        at(x, 2, 3);
        Edges.due("both are near", x.eventOf(2), 1);
        at(x, 3, 1);
        Edges.due("both are near once more", x.eventOf(3), 1);
        at(x, 4, 0);
        Edges.due("the first alone is near", x.eventOf(4), 0);
        at(x, 10, 3);
        Edges.due("the first is too long ago", x.eventOf(5), 1);
    }

    @Says(in = IN, text = "that began latest of those")
    static void anEventOfAnotherCauseThatBeganLaterIsNotJoined() {
        CoverHouses x = Edges.told(TEN_HOURS, 3);
        at(x, 0, 0);
        x.loss(0, 1, 0, 1, 0, 1);
        at(x, 2, 0);
        Edges.due("its own cause", x.eventOf(2), 0);
    }

    @Says(in = IN, text = "whose first LOSS is less than the cause's hours ahead")
    static void lessThanTheHoursAheadIsNotAllOfThem() {
        CoverHouses x = Edges.told(TEN_HOURS, 3);
        at(x, 0, 0);
        at(x, 9, 0);
        Edges.due("9 hours", x.eventOf(1), 0);
        at(x, 10, 0);
        Edges.due("10 hours", x.eventOf(2), 1);
    }

    @Says(in = IN, text = "whose first LOSS is less than the cause's hours ahead")
    static void theLeastHoursJoinLossesOfOneHourAlone() {
        CoverHouses x = Edges.told("house a;event 0 hours 1 miles 999;");
        at(x, 0, 0);
        at(x, 0, 999);
        Edges.due("of one HOUR", x.events(), 1);
        at(x, 1, 0);
        Edges.due("an HOUR later", x.events(), 2);
    }

    @Says(in = IN, text = "whose first LOSS is less than the cause's hours ahead")
    static void theMostHoursAre999() {
        CoverHouses x = Edges.told("house a;event 0 hours 999 miles 999;", 60);
        at(x, 24, 0);
        at(x, 24 + 998, 0);
        Edges.due("998 hours", x.events(), 1);
        at(x, 24 + 999, 0);
        Edges.due("999 hours", x.events(), 2);
    }

    @Says(in = IN, text = "whose first LOSS is less than the cause's hours ahead and at most its miles away;")
    static void itIsTheFirstLossThatCounts() {
        CoverHouses x = Edges.told(TEN_HOURS, 3);
        for (int hour = 0; hour <= 12; hour += 4) {
            at(x, hour, 0);
        }
        Edges.due("8 hours behind the first", x.eventOf(2), 0);
        Edges.due("12 hours behind the first, 4 behind the last", x.eventOf(3), 1);
    }

    @Says(in = IN, text = "at most its miles away;")
    static void allItsMilesAwayJoinsOneMoreDoesNot() {
        for (int way = -1; way <= 1; way += 2) {
            CoverHouses x = Edges.told(TEN_HOURS, 3);
            at(x, 0, 500);
            at(x, 0, 500 + 5 * way);
            Edges.due("5 miles", x.eventOf(1), 0);
            at(x, 0, 500 + 6 * way);
            Edges.due("6 miles", x.eventOf(2), 1);
        }
    }

    @Says(in = IN, text = "at most its miles away;")
    static void theLeastMilesJoinLossesOfOnePlaceAlone() {
        CoverHouses x = Edges.told("house a;event 0 hours 999 miles 0;", 3);
        at(x, 0, 999);
        at(x, 5, 999);
        Edges.due("of one place", x.events(), 1);
        at(x, 5, 998);
        Edges.due("a mile away", x.events(), 2);
    }

    @Says(in = IN, text = "at most its miles away;")
    static void theMostMilesJoinAllPlaces() {
        CoverHouses x = Edges.told("house a;event 0 hours 1 miles 998;event 1 hours 1 miles 999;");
        for (int cause = 0; cause <= 1; cause++) {
            x.loss(0, 0, 0, cause, 0, 1);
            x.loss(0, 0, 999, cause, 0, 1);
        }
        Edges.due("999 of 998 miles", x.eventOf(1), 1);
        Edges.due("999 of 999 miles", x.eventOf(3), x.eventOf(2));
    }

    @Says(in = IN, text = "unless there is none")
    static void itBeginsAnEventIfThereIsNone() {
        CoverHouses x = Edges.told("house a;event 0 hours 1 miles 0;", 9);
        for (int i = 0; i < 60; i++) {
            at(x, i, i);
        }
        Edges.due("EVENTS", x.events(), 60);
        Edges.due("of the last", x.eventOf(59), 59);
        Edges.due("its first LOSS", x.event(59, 0), 59);
        Edges.due("no EVENT behind it", x.event(60, 0), Edges.NONE);
    }

    @Says(in = IN, text = "or a SPLIT is told at it: then it begins an EVENT.")
    static void aSplitBeginsAnEventAndTheNextJoinsIt() {
        CoverHouses x = Edges.told(TEN_HOURS, 3);
        at(x, 0, 0);
        at(x, 1, 0);
        at(x, 2, 0);
        at(x, 3, 6);
        x.split(1, true);
        Edges.due("EVENTS", x.events(), 3);
        Edges.due("it begins one", x.event(1, 0), 1);
        Edges.due("the next joins", x.eventOf(2), 1);
        Edges.due("the far one", x.eventOf(3), 2);
        at(x, 9, 0);
        at(x, 10, 0);
        Edges.due("9 hours behind the first", x.eventOf(4), 1);
        Edges.due("10 hours behind the first, 9 behind the SPLIT", x.eventOf(5), 1);
    }

    @Says(in = IN, text = "or a SPLIT is told at it: then it begins an EVENT.")
    static void aSplitAtAFirstLossChangesNothing() {
        CoverHouses x = Edges.told(TEN_HOURS, 3);
        at(x, 0, 0);
        at(x, 1, 0);
        x.split(0, true);
        Edges.due("EVENTS", x.events(), 1);
        Edges.due("the next joins", x.eventOf(1), 0);
    }

    @Says(in = IN, text = "or a SPLIT is told at it: then it begins an EVENT.")
    static void aSplitAtALossThatDoesNotCountBeginsNone() {
        CoverHouses x = Edges.told(TEN_HOURS, 3);
        at(x, 0, 0);
        at(x, 1, 0);
        at(x, 2, 0);
        x.split(1, true);
        x.word(1, 0);
        Edges.due("EVENTS", x.events(), 1);
        Edges.due("the next joins the first", x.eventOf(2), 0);
        x.word(1, 1);
        Edges.due("it counts again", x.events(), 2);
    }

    @Says(in = IN, text = "or a SPLIT is told at it: then it begins an EVENT.")
    static void sixtySplitsMakeSixtyEvents() {
        CoverHouses x = Edges.told("house a;");
        for (int i = 0; i < 60; i++) {
            at(x, 0, 0);
            x.split(i, true);
        }
        Edges.due("EVENTS", x.events(), 60);
        Edges.due("LOSSES of the last", x.event(59, 1), 1);
        Edges.due("LOSSES that count", x.count(6), 60);
    }

    @Says(in = IN, text = "EVENTS are numbered as they begin.")
    static void eventsAreNumberedAsTheyBegin() {
        CoverHouses x = Edges.told("house a;", 30);
        x.loss(0, 600, 0, 0, 0, 1);
        x.loss(0, 500, 0, 5, 0, 1);
        x.loss(0, 500, 0, 4, 0, 1);
        x.loss(0, 0, 0, 3, 0, 1);
        int[] first = {3, 1, 2, 0};
        for (int event = 0; event < 4; event++) {
            Edges.due("first LOSS of " + event, x.event(event, 0), first[event]);
            Edges.due("EVENT of it", x.eventOf(first[event]), event);
        }
        x.leave(0, true);
        Edges.due("no LOSS counts, no EVENT", x.event(0, 0), Edges.NONE);
    }
}
