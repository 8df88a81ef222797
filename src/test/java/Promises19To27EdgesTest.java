import java.io.IOException;

/** Promises 19 to 27: what a HOUSE wants and fears, PURSES, LATE TOLD, and what there is. */
public final class Promises19To27EdgesTest {
    private static final int LEAST = Integer.MIN_VALUE;
    private static final int MOST = Integer.MAX_VALUE;

    private Promises19To27EdgesTest() {
    }

    public static void main(String[] args) throws IOException, ReflectiveOperationException {
        Edges.runAll(Promises19To27EdgesTest.class);
    }

    /** A layer of a that takes 100 of each EVENT. */
    private static CoverHouses layered() {
        return Edges.told(Edges.ABC + "layer l of a:100 over 0 1000 to b again 9 at 0;", 5);
    }

    // ---- 19: wants

    @Says(in = "Promise 19", text = "THE SPLIT a HOUSE wants: the LOSS;")
    static void wantsTellsTheLoss() {
        CoverHouses x = layered();
        for (int i = 0; i < 60; i++) {
            x.loss(0, 59 - i, 0, 0, 0, i == 0 ? 100 : 2);
        }
        // By HOUR 59 LOSSES of 2, then the one of 100: 118 and 100 with a SPLIT at it.
        Edges.due("the last by HOUR", x.wants(0), 0);
        x.word(0, 1);
        x.word(59, 100);
        // By HOUR 100, 58 times 2, and 1: of LOSS 50 on there are 101 and more, of 49 on 99.
        Edges.due("the least LOSS of those that are enough", x.wants(0), 50);
    }

    @Says(in = "Promise 19", text = "NONE: none, no such HOUSE.")
    static void wantsTellsNoneWhereNoneIsWanted() {
        CoverHouses x = layered();
        Edges.due("no LOSSES", x.wants(0), Edges.NONE);
        x.loss(0, 0, 0, 0, 0, 500);
        Edges.due("one LOSS", x.wants(0), Edges.NONE);
        x.loss(0, 1, 0, 0, 0, 500);
        Edges.due("two", x.wants(0), 1);
        Edges.due("b bears what a doesn't", x.wants(1), Edges.NONE);
        Edges.due("c has no part", x.wants(2), Edges.NONE);
        x.split(1, true);
        Edges.due("it is told", x.wants(0), Edges.NONE);
    }

    @Says(in = "Promise 19", text = "NONE: none, no such HOUSE.")
    static void wantsTellsNoneOfAHouseThatThereIsNot() {
        CoverHouses x = layered();
        x.loss(0, 0, 0, 0, 0, 500);
        x.loss(0, 1, 0, 0, 0, 500);
        for (int house : new int[] {-1, 3, 11, 12, LEAST, MOST}) {
            Edges.due("HOUSE " + house, x.wants(house), Edges.NONE);
        }
    }

    @Says(in = "Promise 19", text = "THE SPLIT a HOUSE wants: the LOSS;")
    static void wantsLeavesAllAsItIs() {
        CoverHouses x = layered();
        x.loss(0, 0, 0, 0, 0, 80);
        x.loss(0, 1, 0, 0, 0, 80);
        x.purse(1, 60);
        Edges.due("FAILED", x.count(8), 2);
        Edges.due("bears", x.bears(0), 60);
        Edges.due("wants", x.wants(0), 1);
        Edges.due("bears still", x.bears(0), 60);
        Edges.due("wants again", x.wants(0), 1);
        Edges.due("EVENTS", x.events(), 1);
        Edges.due("no SPLIT", x.look(1, 6), 0);
        Edges.due("left", x.left(0), 900);
        Edges.due("pays", x.clears(1, 1), 60);
    }

    // ---- 20: worst

    @Says(in = "Promise 20", text = "WORST of a HOUSE by k storms, as bits;")
    static void worstTellsBitsOfStorms() {
        for (int storm = 0; storm <= 5; storm++) {
            CoverHouses x = layered();
            x.loss(0, 0, 0, 0, storm, 101);
            for (int k = 1; k <= 6; k++) {
                Edges.due("storm " + storm + " for a", x.worst(0, k), 1 << storm);
                Edges.due("storm " + storm + " for b", x.worst(1, k), 1 << storm);
                Edges.due("storm " + storm + " for c", x.worst(2, k), 0);
            }
        }
        Edges.due("no storm", layered().worst(0, 6), 0);
    }

    @Says(in = "Promise 20", text = "WORST of a HOUSE by k storms, as bits;")
    static void worstLeavesAllAsItIs() {
        CoverHouses x = layered();
        x.loss(0, 0, 0, 0, 1, 80);
        x.loss(0, 1, 0, 0, 2, 80);
        x.leave(2, true);
        Edges.due("bears", x.bears(1), 80);
        Edges.due("worst", x.worst(1, 2), 2);
        Edges.due("bears still", x.bears(1), 80);
        Edges.due("of LOSS 1", x.eventOf(1), Edges.NONE);
        x.leave(2, false);
        Edges.due("with both it is no worse than 100", x.worst(1, 2), 6);
        Edges.due("bears 100", x.bears(1), 100);
    }

    @Says(in = "Promise 20", text = "WORST of a HOUSE by k storms, as bits;")
    static void wantsAndWorstOfTwelveHouses() {
        StringBuilder text = new StringBuilder(Edges.houses(12));
        for (int i = 0; i < 12; i++) {
            text.append("layer q").append((char) ('a' + i)).append(" of h").append((char) ('a' + i)).append(":9 over 0 1000 to h")
                    .append((char) ('a' + (i + 1) % 12)).append(" again 9 at 0 when losses<13;");
        }
        CoverHouses x = Edges.told(text.toString());
        for (int i = 0; i < 12; i++) {
            x.loss(i, 0, 0, 0, i % 6, 10 + i);
        }
        for (int house = 0; house < 12; house++) {
            // All are 9 above what they pass on, and 9 come from the one ahead: each bears what it has.
            Edges.due("worst of " + house, x.worst(house, 1), 1 << house % 6);
            Edges.due("wants of " + house, x.wants(house), Edges.NONE);
            Edges.due("bears of " + house, x.bears(house), 10 + house);
        }
        Edges.due("a 13th", x.wants(12), Edges.NONE);
        Edges.due("the worst of a 13th", x.worst(12, 1), Edges.NONE);
    }

    @Says(in = "Promise 20", text = "NONE: no such HOUSE, k.")
    static void worstRefusesAnotherHouseAndAnotherK() {
        CoverHouses x = layered();
        x.loss(0, 0, 0, 0, 0, 101);
        for (int house : new int[] {-1, 3, 11, 12, LEAST, MOST}) {
            Edges.due("HOUSE " + house, x.worst(house, 1), Edges.NONE);
        }
        for (int k : new int[] {-1, 0, 7, LEAST, MOST}) {
            Edges.due("k " + k, x.worst(0, k), Edges.NONE);
        }
        Edges.due("k 1", x.worst(0, 1), 1);
        Edges.due("k 6", x.worst(0, 6), 1);
    }

    // ---- 21: purse

    @Says(in = "Promise 21", text = "A HOUSE's purse (0 to 11): true;")
    static void purseTakesHouses0To11WhetherToldOrNot() {
        CoverHouses x = Edges.told("house a;");
        Edges.taken("0", x.purse(0, 5));
        Edges.taken("11", x.purse(11, 7));
        Signs.wording(x, Edges.houses(12) + "share s of ha:1000 to hl;");
        x.commute(0, 9);
        Edges.due("told later", x.clears(11, 1), 7);
        Edges.taken("another one", x.purse(11, 8));
        Edges.due("in place of the one ahead", x.clears(11, 1), 8);
        Edges.taken("the most", x.purse(11, 99999999));
        Edges.due("all", x.clears(11, 1), 9);
        Edges.taken("0", x.purse(11, 0));
        Edges.due("nothing", x.clears(11, 1), 0);
    }

    @Says(in = "Promise 21", text = "false: none such, another purse.")
    static void purseRefusesAnotherHouseAndAnotherPurse() {
        CoverHouses x = Edges.told(Edges.ABC + "share s of a:1000 to b;");
        x.commute(0, 9);
        x.purse(1, 4);
        for (int house : new int[] {-1, 12, LEAST, MOST}) {
            Edges.refused("HOUSE " + house, x.purse(house, 8));
        }
        for (int n : new int[] {-1, 100000000, LEAST, MOST}) {
            Edges.refused("purse " + n, x.purse(1, n));
        }
        Edges.due("the one ahead stays", x.clears(1, 1), 4);
    }

    // ---- 22: clears

    /** c owes a and b, b owes a; c's purse is short. */
    private static CoverHouses debts(int purse) {
        CoverHouses x = Edges.told(Edges.ABC + "share s of a:1000 to b;share t of a:1000 to c;share u of b:1000 to c;");
        x.commute(0, 50);
        x.commute(1, 60);
        x.commute(2, 30);
        x.purse(1, 20);
        x.purse(2, purse);
        return x;
    }

    @Says(in = "Promise 22", text = "Of a HOUSE, what 0: all NET it owes, 1: what it pays of that, 2: what it gets, 3: 1 if FAILED, else 0, "
            + "4: rounds of all (the last one counts).")
    static void clearsTellsFiveNumbers() {
        // c has 45 of 90: 30 to a, 15 to b, which has 35 of 50.
        int[][] due = {{0, 0, 65, 0, 3}, {50, 35, 15, 1, 3}, {90, 45, 0, 1, 3}};
        CoverHouses x = debts(45);
        for (int house = 0; house < 3; house++) {
            for (int what = 0; what <= 4; what++) {
                Edges.due("HOUSE " + house + " what " + what, x.clears(house, what), due[house][what]);
            }
        }
        int[][] all = {{0, 0, 110, 0, 1}, {50, 50, 30, 0, 1}, {90, 90, 0, 0, 1}};
        CoverHouses y = debts(90);
        for (int house = 0; house < 3; house++) {
            for (int what = 0; what <= 4; what++) {
                Edges.due("HOUSE " + house + " what " + what, y.clears(house, what), all[house][what]);
            }
        }
    }

    @Says(in = "Promise 22", text = "4: rounds of all (the last one counts).")
    static void clearsTellsTheSameRoundsOfEachHouse() {
        CoverHouses x = debts(0);
        for (int house = 0; house < 3; house++) {
            Edges.due("c, then b, then nothing", x.clears(house, 4), 3);
        }
        Edges.due("no debts", Edges.told("house a;").clears(0, 4), 1);
    }

    @Says(in = "Promise 22", text = "NoSuchElementException: none such.")
    static void clearsThrowsForAnotherHouseAndAnotherWhat() {
        CoverHouses x = debts(45);
        for (int house : new int[] {-1, 3, 11, 12, LEAST, MOST}) {
            for (int what = 0; what <= 4; what++) {
                int of = what;
                Edges.throwsNoSuchElement("HOUSE " + house, () -> x.clears(house, of));
            }
        }
        for (int what : new int[] {-1, 5, LEAST, MOST}) {
            Edges.throwsNoSuchElement("what " + what, () -> x.clears(0, what));
        }
        Edges.due("rounds", x.clears(0, 4), 3);
    }

    // ---- 23 to 25: LATE TOLD

    /** On the last DAY of YEAR 1; HOUSE 11 has a LOSS of YEAR 0 that grew from 40 to 50. */
    private static CoverHouses late() {
        CoverHouses x = new CoverHouses();
        x.loss(11, 0, 0, 0, 0, 40);
        x.days(365);
        x.word(0, 50);
        x.loss(11, 365 * 24, 0, 0, 0, 100);
        x.days(364);
        return x;
    }

    @Says(in = "Promise 23", text = "KNOWN;")
    static void knownTellsTheSum() {
        CoverHouses x = late();
        Edges.due("YEAR 0, lag 0", x.known(11, 0, 0), 40);
        Edges.due("YEAR 0, lag 1", x.known(11, 0, 1), 50);
        Edges.due("YEAR 1, lag 0", x.known(11, 1, 0), 100);
        Edges.due("of HOUSE 0", x.known(0, 0, 0), 0);
    }

    @Says(in = "Promise 23", text = "NONE: no such HOUSE (0 to 11), YEAR, lag, it can't be told.")
    static void knownRefusesAnotherHouseYearLagAndWhatCannotBeTold() {
        CoverHouses x = late();
        for (int other : new int[] {-1, LEAST, MOST}) {
            Edges.due("HOUSE " + other, x.known(other, 0, 0), Edges.NONE);
            Edges.due("YEAR " + other, x.known(11, other, 0), Edges.NONE);
            Edges.due("lag " + other, x.known(11, 0, other), Edges.NONE);
        }
        Edges.due("HOUSE 12", x.known(12, 0, 0), Edges.NONE);
        Edges.due("YEAR 27", x.known(11, 27, 0), Edges.NONE);
        Edges.due("lag 10", x.known(11, 0, 10), Edges.NONE);
        Edges.due("lag 2 of YEAR 0 can't be told", x.known(11, 0, 2), Edges.NONE);
        Edges.due("lag 1 of YEAR 1 can't be told", x.known(11, 1, 1), Edges.NONE);
        Edges.due("lag 0 of YEAR 2 can't be told", x.known(11, 2, 0), Edges.NONE);
        x.view(728);
        Edges.due("lag 1 of YEAR 0 by THE VIEW", x.known(11, 0, 1), Edges.NONE);
        x.view(363);
        Edges.due("lag 0 of YEAR 0 by THE VIEW", x.known(11, 0, 0), Edges.NONE);
    }

    @Says(in = "Promise 24", text = "FACTOR;")
    static void factorTellsThousandths() {
        CoverHouses x = late();
        Edges.due("50 of 40", x.factor(11, 0), 1250);
        Edges.due("of HOUSE 0", x.factor(0, 0), 1000);
        x.view(728);
        Edges.due("no YEAR has a lag 1", x.factor(11, 0), 1000);
    }

    @Says(in = "Promise 24", text = "NONE: no such HOUSE (0 to 11), lag.")
    static void factorRefusesAnotherHouseAndLag() {
        CoverHouses x = late();
        for (int other : new int[] {-1, LEAST, MOST}) {
            Edges.due("HOUSE " + other, x.factor(other, 0), Edges.NONE);
            Edges.due("lag " + other, x.factor(11, other), Edges.NONE);
        }
        Edges.due("HOUSE 12", x.factor(12, 0), Edges.NONE);
        Edges.due("lag 9", x.factor(11, 9), Edges.NONE);
        Edges.due("lag 8", x.factor(11, 8), 1000);
        Edges.due("HOUSE 11", x.factor(11, 1), 1000);
    }

    @Says(in = "Promise 25", text = "FORETOLD;")
    static void foretoldTellsTheSum() {
        CoverHouses x = late();
        Edges.due("YEAR 0", x.foretold(11, 0), 50);
        Edges.due("YEAR 1", x.foretold(11, 1), 125);
        Edges.due("of HOUSE 0", x.foretold(0, 1), 0);
    }

    @Says(in = "Promise 25", text = "NONE: no such HOUSE (0 to 11), YEAR, none.")
    static void foretoldRefusesAnotherHouseYearAndTellsNone() {
        CoverHouses x = late();
        for (int other : new int[] {-1, LEAST, MOST}) {
            Edges.due("HOUSE " + other, x.foretold(other, 0), Edges.NONE);
            Edges.due("YEAR " + other, x.foretold(11, other), Edges.NONE);
        }
        Edges.due("HOUSE 12", x.foretold(12, 0), Edges.NONE);
        Edges.due("YEAR 27", x.foretold(11, 27), Edges.NONE);
        Edges.due("YEAR 2: none", x.foretold(11, 2), Edges.NONE);
        Edges.due("YEAR 26: none", x.foretold(11, 26), Edges.NONE);
        x.days(1000);
        Edges.due("YEAR 2", x.foretold(11, 2), 0);
    }

    // ---- 26: look

    @Says(in = "Promise 26", text = "Of a LOSS, what 0: HOUSE, 1: HOUR, 2: place, 3: cause, 4: storm, 5: the amount as known by THE VIEW "
            + "(NONE: not told by then), 6: 1 if a SPLIT is told, else 0.")
    static void lookTellsSevenNumbers() {
        CoverHouses x = Edges.newOn(9999);
        int[][] losses = {{11, 239999, 999, 7, 5, 100000, 0}, {0, 0, 0, 0, 0, 0, 1}};
        for (int[] n : losses) {
            x.loss(n[0], n[1], n[2], n[3], n[4], n[5]);
        }
        x.split(1, true);
        for (int loss = 0; loss < 2; loss++) {
            for (int what = 0; what <= 6; what++) {
                Edges.due("LOSS " + loss + " what " + what, x.look(loss, what), losses[loss][what]);
            }
        }
    }

    @Says(in = "Promise 26", text = "5: the amount as known by THE VIEW (NONE: not told by then)")
    static void lookTellsNoneOfAnAmountThatIsNotToldByThen() {
        CoverHouses x = Edges.newOn(3);
        x.loss(2, 5, 6, 1, 4, 0);
        x.days(1);
        x.word(0, 9);
        x.view(2);
        Edges.due("not told", x.look(0, 5), Edges.NONE);
        Edges.due("its HOUSE is told all the same", x.look(0, 0), 2);
        x.view(3);
        Edges.due("an amount of 0", x.look(0, 5), 0);
        x.view(4);
        Edges.due("the later word", x.look(0, 5), 9);
    }

    @Says(in = "Promise 26", text = "NoSuchElementException: none such.")
    static void lookThrowsForAnotherLossAndAnotherWhat() {
        CoverHouses x = Edges.newOn(3);
        x.loss(2, 5, 6, 1, 4, 0);
        for (int loss : new int[] {-1, 1, 59, 60, LEAST, MOST}) {
            for (int what = 0; what <= 6; what++) {
                int of = what;
                Edges.throwsNoSuchElement("LOSS " + loss, () -> x.look(loss, of));
            }
        }
        for (int what : new int[] {-1, 7, LEAST, MOST}) {
            Edges.throwsNoSuchElement("what " + what, () -> x.look(0, what));
        }
    }

    // ---- 27: count

    @Says(in = "Promise 27", text = "What 0: HOUSES, 1: treaties, 2: LOSSES, 3: words, 4: NOW, 5: THE VIEW, 6: LOSSES that count, "
            + "7: treaties COMMUTED (by THE VIEW), 8: HOUSES that FAILED, 9: signs on the TAPE.")
    static void countTellsTenNumbers() {
        CoverHouses x = Edges.told(Edges.ABC + "share s of a:500 to b;share t of b:500 to c;", 7);
        x.loss(0, 0, 0, 0, 0, 10);
        x.loss(0, 0, 0, 0, 1, 10);
        x.loss(3, 0, 0, 0, 0, 10);
        x.loss(0, 0, 0, 0, 0, 0);
        x.word(0, 20);
        x.leave(1, true);
        x.days(1);
        x.commute(1, 100);
        x.purse(2, 99);
        Signs.feed(x, "\n ~");
        int[] due = {3, 2, 4, 5, 8, 8, 1, 1, 1, 3};
        for (int what = 0; what <= 9; what++) {
            Edges.due("count " + what, x.count(what), due[what]);
        }
        x.view(7);
        int[] byView = {3, 2, 4, 5, 8, 7, 1, 0, 2, 3};
        for (int what = 0; what <= 9; what++) {
            Edges.due("by THE VIEW, count " + what, x.count(what), byView[what]);
        }
    }

    @Says(in = "Promise 27", text = "6: LOSSES that count, 7: treaties COMMUTED (by THE VIEW), 8: HOUSES that FAILED")
    static void countAtItsMost() {
        StringBuilder text = new StringBuilder(Edges.houses(12));
        for (int i = 0; i < 24; i++) {
            text.append("share q").append((char) ('a' + i)).append(" of ha:1 to hb;");
        }
        CoverHouses x = Edges.told(text.toString());
        for (int i = 0; i < 60; i++) {
            x.loss(i % 12, 0, 0, 0, 0, 1);
        }
        for (int i = 0; i < 24; i++) {
            x.commute(i, 999999);
        }
        Edges.due("LOSSES that count", x.count(6), 60);
        Edges.due("COMMUTED", x.count(7), 24);
        Edges.due("FAILED", x.count(8), 12);
        Edges.due("owed", x.owed(1, 0), 24 * 999);
    }

    @Says(in = "Promise 27", text = "NONE for another what.")
    static void countRefusesAnotherWhat() {
        CoverHouses x = Edges.told(Edges.ABC);
        for (int what : new int[] {-1, 10, 11, LEAST, MOST}) {
            Edges.due("what " + what, x.count(what), Edges.NONE);
        }
    }
}
