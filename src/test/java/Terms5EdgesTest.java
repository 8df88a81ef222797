import java.io.IOException;

/** ==== 5: PURSES, what each HOUSE pays and gets, and which FAILED. */
public final class Terms5EdgesTest {
    private static final String IN = "Terms 5";
    private static final int MOST_PURSE = 99999999;

    private Terms5EdgesTest() {
    }

    public static void main(String[] args) throws IOException, ReflectiveOperationException {
        Edges.runAll(Terms5EdgesTest.class);
    }

    /** b owes a, which has no LOSS, a sum. */
    private static CoverHouses debt(int sum) {
        CoverHouses x = Edges.told(Edges.ABC + "share s of a:1000 to b;");
        x.commute(0, sum);
        return x;
    }

    private static void clears(CoverHouses x, int house, int owes, int pays, int gets, int failed) {
        Edges.due("owes of " + house, x.clears(house, 0), owes);
        Edges.due("pays of " + house, x.clears(house, 1), pays);
        Edges.due("gets of " + house, x.clears(house, 2), gets);
        Edges.due("FAILED of " + house, x.clears(house, 3), failed);
    }

    @Says(in = IN, text = "PURSES of HOUSES (0 to 99999999; 0 at first).")
    static void aPurseIs0To99999999() {
        CoverHouses x = new CoverHouses();
        for (int house = 0; house < 12; house++) {
            Edges.taken("0", x.purse(house, 0));
            Edges.taken("1", x.purse(house, 1));
            Edges.taken("the most", x.purse(house, MOST_PURSE));
            Edges.refused("one more", x.purse(house, MOST_PURSE + 1));
            Edges.refused("-1", x.purse(house, -1));
            Edges.refused("the least int", x.purse(house, Integer.MIN_VALUE));
            Edges.refused("the greatest int", x.purse(house, Integer.MAX_VALUE));
        }
    }

    @Says(in = IN, text = "PURSES of HOUSES (0 to 99999999; 0 at first).")
    static void aPurseIs0AtFirst() {
        CoverHouses x = Edges.told("house a;");
        Edges.due("without a LOSS none FAILED", x.count(8), 0);
        x.loss(0, 0, 0, 0, 0, 1);
        Edges.due("with one of 1", x.count(8), 1);
        CoverHouses y = debt(1);
        clears(y, 1, 1, 0, 0, 1);
    }

    @Says(in = IN, text = "PURSES of HOUSES (0 to 99999999; 0 at first).")
    static void aPurseIsOfAHouseNumberWhateverTheWording() {
        CoverHouses x = new CoverHouses();
        x.purse(1, 30);
        Signs.wording(x, Edges.ABC + "share s of a:1000 to b;");
        x.commute(0, 40);
        clears(x, 1, 40, 30, 0, 1);
        Signs.wording(x, "house x;house y;share t of x:500 to y;");
        x.commute(0, 40);
        clears(x, 1, 20, 20, 0, 0);
    }

    @Says(in = IN, text = "NET a to b: what a is OWED to b less what b is to a, 0 at least.")
    static void netIsTheDifference0AtLeast() {
        int[][] sums = {{50, 20}, {20, 50}, {30, 30}, {31, 30}, {0, 0}};
        for (int[] both : sums) {
            CoverHouses x = Edges.told(Edges.ABC + "share s of a:1000 to b;share t of b:1000 to a;");
            x.commute(0, both[0]);
            x.commute(1, both[1]);
            Edges.due("b owes NET", x.clears(1, 0), Math.max(0, both[0] - both[1]));
            Edges.due("a owes NET", x.clears(0, 0), Math.max(0, both[1] - both[0]));
        }
    }

    @Says(in = IN, text = "NET a to b: what a is OWED to b less what b is to a, 0 at least.")
    static void netIsOfEachPairOfHousesByItself() {
        CoverHouses x = Edges.told(Edges.ABC + "share s of a:1000 to b;share t of b:1000 to c;share u of c:1000 to a;");
        for (int treaty = 0; treaty < 3; treaty++) {
            x.commute(treaty, 100);
        }
        for (int house = 0; house < 3; house++) {
            // All pay all at first, and each has it of the one ahead: nobody needs a purse.
            clears(x, house, 100, 100, 100, 0);
        }
        Edges.due("rounds", x.clears(0, 4), 1);
    }

    @Says(in = IN, text = "A HOUSE pays its DIRECT first, from its purse; what is left of the purse (0 at least)")
    static void whatIsLeftOfThePurseBehindDirectIsPaid() {
        int[] purses = {0, 49, 50, 51, 79, 80, 81};
        int[] pays = {0, 0, 0, 1, 29, 30, 30};
        for (int i = 0; i < purses.length; i++) {
            CoverHouses x = debt(30);
            x.loss(1, 0, 0, 0, 0, 40);
            x.loss(1, 0, 0, 7, 0, 10);
            x.purse(1, purses[i]);
            clears(x, 1, 30, pays[i], 0, purses[i] < 80 ? 1 : 0);
            Edges.due("a gets", x.clears(0, 2), pays[i]);
        }
    }

    @Says(in = IN, text = "A HOUSE pays its DIRECT first, from its purse; what is left of the purse (0 at least)")
    static void aPurseBelowDirectTakesNothingOfWhatIsGot() {
        CoverHouses x = Edges.told(Edges.ABC + "share s of a:1000 to b;share t of b:1000 to c;");
        x.commute(0, 30);
        x.commute(1, 20);
        x.loss(1, 0, 0, 0, 0, 100);
        x.purse(1, 5);
        x.purse(2, 20);
        // Of the LOSS of 100 and the purse of 5 nothing goes off the 20 that b gets.
        clears(x, 1, 30, 20, 20, 1);
        clears(x, 2, 20, 20, 0, 0);
    }

    @Says(in = IN, text = "and what it gets goes to those whom it owes NET: it pays all, or, if it has less, that.")
    static void itPaysAllOrWhatItHas() {
        int[] purses = {0, 99, 100, 101, MOST_PURSE};
        for (int purse : purses) {
            CoverHouses x = debt(100);
            x.purse(1, purse);
            clears(x, 1, 100, Math.min(purse, 100), 0, purse < 100 ? 1 : 0);
            clears(x, 0, 0, 0, Math.min(purse, 100), 0);
        }
    }

    @Says(in = IN, text = "and what it gets goes to those whom it owes NET: it pays all, or, if it has less, that.")
    static void whatItGetsAndItsPurseMayJustBeAll() {
        for (int purse = 9; purse <= 11; purse++) {
            CoverHouses x = Edges.told(Edges.ABC + "share s of a:1000 to b;share t of b:1000 to c;");
            x.commute(0, 30);
            x.commute(1, 20);
            x.purse(1, purse);
            x.purse(2, 20);
            clears(x, 1, 30, Math.min(30, 20 + purse), 20, purse < 10 ? 1 : 0);
        }
    }

    @Says(in = IN, text = "Of what it pays each has PAID * its NET / all NET of it, cut.")
    static void whatEachGetsIsCut() {
        for (int purse = 0; purse <= 6; purse++) {
            CoverHouses x = Edges.told(Edges.ABC + "share s of a:1000 to c;share t of b:1000 to c;");
            x.commute(0, 2);
            x.commute(1, 4);
            x.purse(2, purse);
            Edges.due("a gets of " + purse, x.clears(0, 2), purse * 2 / 6);
            Edges.due("b gets of " + purse, x.clears(1, 2), purse * 4 / 6);
            Edges.due("c pays it all the same", x.clears(2, 1), purse);
        }
    }

    @Says(in = IN, text = "Of what it pays each has PAID * its NET / all NET of it, cut.")
    static void paidTimesNetAtItsLargest() {
        Both both = new Both("house a;house b;house c;event 0 hours 1 miles 0;share s of a:993 to b;share t of b:993 to c;"
                + "share u of c:992 to a and 1 to b;share v of a:1 to c;", 9);
        for (int i = 0; i < 60; i++) {
            both.loss(0, i, 0, 0, 100000);
        }
        both.commute(3, 999999);
        both.compareOwed();
        both.compareClears();
        Edges.need("hundreds of millions", both.fast.clears(0, 0) > 200000000);
        for (int house = 0; house < 3; house++) {
            both.purse(house, MOST_PURSE);
        }
        both.compareClears();
        both.purse(0, 6000000);
        both.purse(1, 0);
        both.compareClears();
    }

    @Says(in = IN, text = "At first all pay all;")
    static void allPayAllAtFirst() {
        // From nothing upward nobody could pay: each pays what it gets of the other two.
        CoverHouses x = Edges.told(Edges.ABC + "share s of a:1000 to b;share t of b:1000 to c;share u of c:1000 to a;");
        x.commute(0, 60);
        x.commute(1, 50);
        x.commute(2, 40);
        clears(x, 0, 40, 40, 40, 0);
        clears(x, 1, 60, 40, 40, 1);
        clears(x, 2, 50, 40, 40, 1);
    }

    @Says(in = IN, text = "then, round by round, each by what all others paid in the round ahead;")
    static void eachRoundPaysByTheRoundAhead() {
        String text = Edges.houses(12);
        StringBuilder chain = new StringBuilder(text);
        for (int i = 0; i < 11; i++) {
            chain.append("share q").append((char) ('a' + i)).append(" of h").append((char) ('b' + i)).append(":1000 to h")
                    .append((char) ('a' + i)).append(';');
        }
        CoverHouses x = Edges.told(chain.toString());
        for (int i = 0; i < 11; i++) {
            x.commute(i, 10);
        }
        // The first can't pay: each round takes it from the next one.
        Edges.due("rounds", x.clears(0, 4), 12);
        Edges.due("FAILED", x.count(8), 11);
        clears(x, 10, 10, 0, 0, 1);
        clears(x, 11, 0, 0, 0, 0);
    }

    @Says(in = IN, text = "until nothing changes")
    static void withoutDebtsOneRoundChangesNothing() {
        CoverHouses x = Edges.told(Edges.ABC);
        Edges.due("rounds", x.clears(2, 4), 1);
        CoverHouses y = debt(7);
        y.purse(1, 7);
        Edges.due("all is paid", y.clears(0, 4), 1);
        y.purse(1, 6);
        Edges.due("one is missing", y.clears(0, 4), 2);
    }

    /** Three of a ring owe one another the sum; one of each turn is lost, as the first owes a fourth 1. */
    private static Both leakyRing(int sum) {
        Both both = new Both("house a;house b;house c;house z;share p of b:1000 to a;share q of c:1000 to b;share r of a:1000 to c;"
                + "share s of z:1000 to a;", 0);
        for (int treaty = 0; treaty < 3; treaty++) {
            both.commute(treaty, sum);
        }
        both.commute(3, 1);
        both.compareClears();
        return both;
    }

    @Says(in = IN, text = "200 rounds at most.")
    static void whatStandsStillInThe200thRound() {
        CoverHouses ahead = leakyRing(65).fast;
        Edges.due("rounds", ahead.clears(0, 4), 197);
        CoverHouses x = leakyRing(66).fast;
        Edges.due("rounds", x.clears(0, 4), 200);
        Edges.due("all have lost all", x.clears(0, 1) + x.clears(1, 1) + x.clears(2, 1), 0);
    }

    @Says(in = IN, text = "200 rounds at most.")
    static void whatStillChangesBehind200RoundsIsLeftSo() {
        CoverHouses x = leakyRing(67).fast;
        Edges.due("rounds", x.clears(3, 4), 200);
        clears(x, 0, 68, 1, 1, 1);
        clears(x, 1, 67, 0, 0, 1);
        clears(x, 2, 67, 1, 0, 1);
        clears(x, 3, 0, 0, 0, 0);
        Edges.due("more", leakyRing(68).fast.clears(0, 1), 2);
    }

    @Says(in = IN, text = "FAILED is a HOUSE that pays less than all")
    static void aHouseThatPaysOneLessFailed() {
        CoverHouses x = debt(100);
        x.purse(1, 99);
        Edges.due("99", x.clears(1, 3), 1);
        Edges.due("one FAILED", x.count(8), 1);
        x.purse(1, 100);
        Edges.due("100", x.clears(1, 3), 0);
        Edges.due("none FAILED", x.count(8), 0);
    }

    @Says(in = IN, text = "or whose purse is below its DIRECT.")
    static void aHouseWhosePurseIsBelowItsDirectFailed() {
        CoverHouses x = Edges.told(Edges.ABC + "share s of b:1000 to a;");
        x.loss(1, 0, 0, 0, 0, 50);
        x.loss(1, 0, 0, 7, 0, 50);
        x.purse(0, 1000);
        Edges.due("what it gets of a is none of its purse", x.clears(1, 3), 1);
        Edges.due("it gets", x.clears(1, 2), 100);
        x.purse(1, 99);
        Edges.due("99", x.clears(1, 3), 1);
        x.purse(1, 100);
        Edges.due("100: of all EVENTS", x.clears(1, 3), 0);
        x.leave(0, true);
        x.purse(1, 0);
        Edges.due("no DIRECT", x.clears(1, 3), 0);
    }
}
