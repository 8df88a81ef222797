import java.io.IOException;

/** ==== 6: what was KNOWN of a YEAR, by which FACTOR it grew, and what is FORETOLD. */
public final class Terms6EdgesTest {
    private static final String IN = "Terms 6";
    private static final int YEAR = 365;
    private static final int LAST_DAY = 9999;

    private Terms6EdgesTest() {
    }

    public static void main(String[] args) throws IOException, ReflectiveOperationException {
        Edges.runAll(Terms6EdgesTest.class);
    }

    /** The DAY on which a YEAR with a lag can be told first. */
    private static int lastDay(int year, int lag) {
        return (year + 1 + lag) * YEAR - 1;
    }

    @Says(in = IN, text = "LATE TOLD. KNOWN of a HOUSE, a YEAR y (0 to 26), a lag l (0 to 9):")
    static void yearsAre0To26() {
        CoverHouses x = Edges.newOn(LAST_DAY);
        Edges.due("0", x.known(0, 0, 0), 0);
        Edges.due("26", x.known(0, 26, 0), 0);
        Edges.due("27", x.known(0, 27, 0), Edges.NONE);
        Edges.due("-1", x.known(0, -1, 0), Edges.NONE);
        Edges.due("-1, though the DAY of it is there", x.known(0, -1, 1), Edges.NONE);
        Edges.due("the greatest int", x.known(0, Integer.MAX_VALUE, 0), Edges.NONE);
        Edges.due("the least int", x.known(0, Integer.MIN_VALUE, 0), Edges.NONE);
    }

    @Says(in = IN, text = "KNOWN of a HOUSE, a YEAR y (0 to 26), a lag l (0 to 9):")
    static void lagsAre0To9() {
        CoverHouses x = Edges.newOn(LAST_DAY);
        Edges.due("0", x.known(0, 3, 0), 0);
        Edges.due("9", x.known(0, 3, 9), 0);
        Edges.due("10", x.known(0, 3, 10), Edges.NONE);
        Edges.due("-1", x.known(0, 3, -1), Edges.NONE);
        Edges.due("the greatest int", x.known(0, 3, Integer.MAX_VALUE), Edges.NONE);
        Edges.due("the least int", x.known(0, 3, Integer.MIN_VALUE), Edges.NONE);
        Edges.due("YEAR 17 with lag 9", x.known(0, 17, 9), 0);
        Edges.due("YEAR 18 with lag 9", x.known(0, 18, 9), Edges.NONE);
    }

    @Says(in = IN, text = "the sum of its LOSSES of that YEAR (of its HOUR)")
    static void aLossIsOfTheYearOfItsHour() {
        CoverHouses x = Edges.newOn(2 * YEAR);
        x.loss(2, YEAR * 24 - 1, 0, 0, 0, 1);
        x.loss(2, YEAR * 24, 0, 0, 0, 10);
        x.loss(2, 2 * YEAR * 24 - 1, 0, 0, 0, 100);
        x.loss(2, 2 * YEAR * 24, 0, 0, 0, 1000);
        x.loss(3, YEAR * 24, 0, 0, 0, 10000);
        Edges.pass(x, 3 * YEAR);
        Edges.due("YEAR 0", x.known(2, 0, 3), 1);
        Edges.due("YEAR 1", x.known(2, 1, 2), 110);
        Edges.due("YEAR 2", x.known(2, 2, 1), 1000);
        Edges.due("YEAR 3", x.known(2, 3, 0), 0);
        Edges.due("of another HOUSE", x.known(3, 1, 2), 10000);
    }

    @Says(in = IN, text = "the sum of its LOSSES of that YEAR (of its HOUR)")
    static void aSumAtItsLargest() {
        CoverHouses x = new CoverHouses();
        for (int i = 0; i < 60; i++) {
            x.loss(11, 0, 0, 0, 0, 100000);
        }
        Edges.pass(x, lastDay(0, 1));
        Edges.due("KNOWN", x.known(11, 0, 0), 6000000);
        Edges.due("FACTOR", x.factor(11, 0), 1000);
        Edges.due("FORETOLD", x.foretold(11, 0), 6000000);
    }

    @Says(in = IN, text = "with the amounts known on DAY (y + 1 + l) * 365 - 1;")
    static void amountsAreThoseOfTheLastDayOfTheLag() {
        CoverHouses x = new CoverHouses();
        x.loss(0, 0, 0, 0, 0, 1);
        for (int lag = 0; lag <= 9; lag++) {
            Edges.pass(x, lastDay(0, lag) - x.count(4));
            x.word(0, 10 + lag);
            x.days(1);
            x.word(0, 1000 + lag);
        }
        for (int lag = 0; lag <= 9; lag++) {
            Edges.due("lag " + lag, x.known(0, 0, lag), 10 + lag);
        }
    }

    @Says(in = IN, text = "with the amounts known on DAY (y + 1 + l) * 365 - 1;")
    static void aLossToldOnTheDayIsInItOneToldTheNextIsNot() {
        CoverHouses x = Edges.newOn(lastDay(1, 0));
        x.loss(0, YEAR * 24, 0, 0, 0, 5);
        x.days(1);
        x.loss(0, YEAR * 24, 0, 0, 0, 70);
        x.word(0, 0);
        Edges.due("lag 0", x.known(0, 1, 0), 5);
        Edges.pass(x, YEAR);
        Edges.due("lag 1", x.known(0, 1, 1), 70);
    }

    @Says(in = IN, text = "it can be told if that DAY is not behind THE VIEW.")
    static void itCanBeToldFromThatDayOn() {
        CoverHouses x = Edges.newOn(lastDay(0, 0) - 1);
        Edges.due("a DAY ahead", x.known(0, 0, 0), Edges.NONE);
        x.days(1);
        Edges.due("on the DAY", x.known(0, 0, 0), 0);
        Edges.due("lag 1 not yet", x.known(0, 0, 1), Edges.NONE);
        Edges.due("YEAR 1 not yet", x.known(0, 1, 0), Edges.NONE);
        x.days(YEAR - 1);
        Edges.due("lag 1 a DAY ahead", x.known(0, 0, 1), Edges.NONE);
        x.days(1);
        Edges.due("lag 1", x.known(0, 0, 1), 0);
        Edges.due("YEAR 1", x.known(0, 1, 0), 0);
    }

    @Says(in = IN, text = "it can be told if that DAY is not behind THE VIEW.")
    static void itIsTheViewAndNotNow() {
        CoverHouses x = Edges.newOn(3000);
        x.view(lastDay(2, 1) - 1);
        Edges.due("a DAY ahead", x.known(0, 2, 1), Edges.NONE);
        x.view(lastDay(2, 1));
        Edges.due("on the DAY", x.known(0, 2, 1), 0);
        CoverHouses y = Edges.newOn(9854);
        Edges.due("YEAR 26 on DAY 9854", y.known(0, 26, 0), 0);
        y.view(9853);
        Edges.due("YEAR 26 on DAY 9853", y.known(0, 26, 0), Edges.NONE);
    }

    /** Known at its end as first, a YEAR later as then. */
    private static CoverHouses grown(int first, int then) {
        CoverHouses x = new CoverHouses();
        x.loss(0, 0, 0, 0, 0, first);
        Edges.pass(x, YEAR);
        x.word(0, then);
        Edges.pass(x, YEAR - 1);
        return x;
    }

    @Says(in = IN, text = "FACTOR of l (0 to 8):")
    static void lagsOfAFactorAre0To8() {
        CoverHouses x = Edges.newOn(LAST_DAY);
        for (int lag = 0; lag <= 8; lag++) {
            Edges.due("lag " + lag, x.factor(0, lag), 1000);
        }
        Edges.due("9", x.factor(0, 9), Edges.NONE);
        Edges.due("-1", x.factor(0, -1), Edges.NONE);
        Edges.due("the greatest int", x.factor(0, Integer.MAX_VALUE), Edges.NONE);
        Edges.due("the least int", x.factor(0, Integer.MIN_VALUE), Edges.NONE);
    }

    @Says(in = IN, text = "FACTOR of l (0 to 8):")
    static void theFactorOfLag8IsOfLag9() {
        CoverHouses x = new CoverHouses();
        x.loss(0, 0, 0, 0, 0, 4);
        Edges.pass(x, lastDay(0, 8) + 1);
        x.word(0, 7);
        Edges.pass(x, YEAR - 2);
        Edges.due("a DAY ahead", x.factor(0, 8), 1000);
        x.days(1);
        Edges.due("on the DAY", x.factor(0, 8), 1750);
        Edges.due("of lag 7", x.factor(0, 7), 1000);
    }

    @Says(in = IN, text = "1000 * the sum over all YEARS for which KNOWN of l + 1 can be told of that / the sum of KNOWN of l over the same")
    static void aYearWhoseNextLagCannotBeToldIsInNeitherSum() {
        CoverHouses x = new CoverHouses();
        x.loss(0, 0, 0, 0, 0, 10);
        Edges.pass(x, YEAR);
        x.word(0, 20);
        x.loss(0, YEAR * 24, 0, 0, 0, 90);
        Edges.pass(x, YEAR - 2);
        Edges.due("no YEAR yet", x.factor(0, 0), 1000);
        x.days(1);
        Edges.due("YEAR 0", x.factor(0, 0), 2000);
        x.days(1);
        x.word(1, 180);
        x.word(0, 60);
        Edges.pass(x, YEAR - 1);
        Edges.due("YEARS 0 and 1: 200 of 100", x.factor(0, 0), 2000);
        Edges.due("lag 1 of YEAR 0 alone", x.factor(0, 1), 3000);
        x.view(2 * YEAR);
        Edges.due("by THE VIEW", x.factor(0, 1), 1000);
    }

    @Says(in = IN, text = "1000 * the sum over all YEARS for which KNOWN of l + 1 can be told of that / the sum of KNOWN of l over the same")
    static void allYears0To25AreInTheSums() {
        CoverHouses x = new CoverHouses();
        for (int year = 0; year <= 26; year++) {
            x.loss(0, year * YEAR * 24, 0, 0, 0, 10);
            Edges.pass(x, YEAR);
            x.word(year, 10 + year);
        }
        int later = 0;
        for (int year = 0; year <= 25; year++) {
            later += 10 + year;
        }
        Edges.due("26 YEARS", x.factor(0, 0), 1000 * later / 260);
    }

    @Says(in = IN, text = "over the same, cut")
    static void aFactorIsCut() {
        Edges.due("8 of 7", grown(7, 8).factor(0, 0), 1142);
        Edges.due("1 of 1001 times", grown(1001, 1).factor(0, 0), 0);
        Edges.due("1 of 1000", grown(1000, 1).factor(0, 0), 1);
        Edges.due("2 of 3", grown(3, 2).factor(0, 0), 666);
    }

    @Says(in = IN, text = "cut, 1000000 at most;")
    static void aFactorIs1000000AtMost() {
        Edges.due("999 of 1", grown(1, 999).factor(0, 0), 999000);
        Edges.due("1000 of 1", grown(1, 1000).factor(0, 0), 1000000);
        Edges.due("1001 of 1", grown(1, 1001).factor(0, 0), 1000000);
        Edges.due("100000 of 1", grown(1, 100000).factor(0, 0), 1000000);
        Edges.due("99999 of 100", grown(100, 99999).factor(0, 0), 999990);
    }

    @Says(in = IN, text = "1000 if that is 0.")
    static void aFactorIs1000IfTheSumItIsOfIs0() {
        Edges.due("no LOSS", new CoverHouses().factor(0, 0), 1000);
        Edges.due("0, then 5", grown(0, 5).factor(0, 0), 1000);
        Edges.due("0, then 0", grown(0, 0).factor(0, 0), 1000);
        Edges.due("5, then 0: the sum it is of is not 0", grown(5, 0).factor(0, 0), 0);
        Edges.due("of a HOUSE without LOSSES", grown(5, 9).factor(1, 0), 1000);
    }

    @Says(in = IN, text = "FORETOLD of a YEAR: KNOWN of its greatest lag that can be told")
    static void theGreatestLagIsTaken() {
        CoverHouses x = new CoverHouses();
        x.loss(0, 0, 0, 0, 0, 100);
        for (int lag = 0; lag <= 9; lag++) {
            Edges.pass(x, lastDay(0, lag) - x.count(4));
            x.word(0, 100 + lag);
        }
        for (int lag = 0; lag <= 9; lag++) {
            x.view(lastDay(0, lag));
            Edges.due("lag " + lag, x.foretold(0, 0), 100 + lag);
        }
        Edges.pass(x, 1000);
        x.word(0, 5);
        x.view(x.count(4));
        Edges.due("nothing behind lag 9", x.foretold(0, 0), 109);
    }

    @Says(in = IN, text = "times FACTOR / 1000, cut")
    static void eachStepIsCut() {
        CoverHouses x = grown(2, 3);
        x.loss(0, YEAR * 24, 0, 0, 0, 5);
        x.days(1);
        x.word(0, 4);
        x.loss(0, 2 * YEAR * 24, 0, 0, 0, 7);
        Edges.pass(x, YEAR - 1);
        // FACTOR of 0: (3 + 5) / (2 + 5); of 1: 4 / 3. 7 * 1142 / 1000 is 7, and 7 * 1333 / 1000 is 9.
        Edges.due("FACTOR of 0", x.factor(0, 0), 1142);
        Edges.due("FACTOR of 1", x.factor(0, 1), 1333);
        Edges.due("YEAR 2", x.foretold(0, 2), 9);
        Edges.due("YEAR 1 of lag 1", x.foretold(0, 1), 6);
    }

    @Says(in = IN, text = "cut, 1000000000 at most, for this lag and each further one to 8;")
    static void foretoldIs1000000000AtMost() {
        int[] amounts = {99999, 100000, 100000};
        int[] more = {0, 0, 1};
        int[] foretold = {999990000, 1000000000, 1000000000};
        for (int i = 0; i < 3; i++) {
            CoverHouses x = grown(1, 10);
            x.days(1);
            x.word(0, 10000);
            x.loss(0, 2 * YEAR * 24, 0, 0, 0, amounts[i]);
            x.loss(0, 2 * YEAR * 24, 0, 0, 0, more[i]);
            Edges.pass(x, YEAR - 1);
            Edges.due("FACTOR of 0", x.factor(0, 0), 10000);
            Edges.due("FACTOR of 1", x.factor(0, 1), 1000000);
            Edges.due("FORETOLD", x.foretold(0, 2), foretold[i]);
        }
    }

    @Says(in = IN, text = "cut, 1000000000 at most, for this lag and each further one to 8;")
    static void itIsCutDownToTheMostAtEachStep() {
        CoverHouses x = grown(1, 1000);
        x.days(1);
        x.word(0, 100000);
        Edges.pass(x, YEAR - 1);
        x.days(1);
        x.word(0, 50000);
        for (int i = 0; i < 58; i++) {
            x.loss(0, 3 * YEAR * 24, 0, 0, 0, 100000);
        }
        Edges.pass(x, YEAR - 1);
        // 5800000 * 1000 is cut down to 1000000000, so is that times 100; a half of it is the end.
        Edges.due("FACTOR of 0", x.factor(0, 0), 1000000);
        Edges.due("FACTOR of 1", x.factor(0, 1), 100000);
        Edges.due("FACTOR of 2", x.factor(0, 2), 500);
        Edges.due("FORETOLD", x.foretold(0, 3), 500000000);
    }

    @Says(in = IN, text = "for this lag and each further one to 8;")
    static void theLastFactorIsThatOf8() {
        CoverHouses x = new CoverHouses();
        x.loss(0, 0, 0, 0, 0, 100);
        Edges.pass(x, lastDay(0, 8) + 1);
        x.word(0, 300);
        Edges.pass(x, YEAR - 1);
        x.loss(0, 9 * YEAR * 24, 0, 0, 0, 7);
        Edges.due("a YEAR of lag 0", x.foretold(0, 9), 21);
        Edges.due("one of lag 9", x.foretold(0, 0), 300);
        Edges.due("one of lag 1 without LOSSES", x.foretold(0, 8), 0);
    }

    @Says(in = IN, text = "none if not lag 0 can be told.")
    static void noneIsForetoldAheadOfLag0() {
        CoverHouses x = Edges.newOn(lastDay(2, 0) - 1);
        x.loss(0, 2 * YEAR * 24, 0, 0, 0, 50);
        Edges.due("a DAY ahead", x.foretold(0, 2), Edges.NONE);
        x.days(1);
        Edges.due("on the DAY", x.foretold(0, 2), 50);
        x.view(lastDay(2, 0) - 1);
        Edges.due("by THE VIEW", x.foretold(0, 2), Edges.NONE);
        Edges.due("the YEAR ahead", x.foretold(0, 1), 0);
    }

    @Says(in = IN, text = "(Storms left out and wordings are not looked at.)")
    static void stormsLeftOutAndWordingsAreNotLookedAt() {
        CoverHouses x = grown(100, 150);
        for (int i = 0; i < 3; i++) {
            Edges.due("KNOWN", x.known(0, 0, 1), 150);
            Edges.due("FACTOR", x.factor(0, 0), 1500);
            Edges.due("FORETOLD", x.foretold(0, 0), 150);
            x.leave(0, true);
            if (i == 1) {
                Signs.wording(x, "house a;event 0 hours 1 miles 0;");
            }
        }
        Edges.due("of a HOUSE that is not told", x.known(11, 0, 0), 0);
    }
}
