import java.io.IOException;

/** Promises 10 to 18: EVENTS and what is owed in them. */
public final class Promises10To18EdgesTest {
    private static final int LEAST = Integer.MIN_VALUE;
    private static final int MOST = Integer.MAX_VALUE;

    private Promises10To18EdgesTest() {
    }

    public static void main(String[] args) throws IOException, ReflectiveOperationException {
        Edges.runAll(Promises10To18EdgesTest.class);
    }

    /** Two EVENTS: of LOSSES 1 and 2, and of LOSS 0; a share, then a layer that is reinstated. */
    private static CoverHouses twoEvents() {
        CoverHouses x = Edges.told(Edges.ABC + "share s of a:250 to b and 250 to c;layer l of b:30 over 5 900 to c again 1 at 60;", 20);
        x.loss(0, 400, 0, 0, 0, 80);
        x.loss(0, 10, 0, 0, 0, 100);
        x.loss(1, 20, 0, 0, 0, 7);
        return x;
    }

    // ---- 10: events

    @Says(in = "Promise 10", text = "How many EVENTS there are.")
    static void eventsAre0To60() {
        CoverHouses x = Edges.told("house a;");
        Edges.due("none", x.events(), 0);
        for (int i = 0; i < 60; i++) {
            x.loss(0, 0, 0, 0, 0, 1);
            x.split(i, true);
            Edges.due("EVENTS", x.events(), i + 1);
        }
        Signs.wording(x, "");
        Edges.due("no HOUSES, no EVENTS", x.events(), 0);
    }

    // ---- 11: event

    @Says(in = "Promise 11", text = "Of an EVENT, what 0: its first LOSS, 1: how many LOSSES, 2: ROUNDS, 3: 1 if ENDLESS, else 0, "
            + "4: DIRECT of all;")
    static void eventTellsFiveNumbers() {
        CoverHouses x = twoEvents();
        int[][] due = {{1, 2, 3, 0, 107}, {0, 1, 3, 0, 80}};
        for (int event = 0; event < 2; event++) {
            for (int what = 0; what <= 4; what++) {
                Edges.due("EVENT " + event + " what " + what, x.event(event, what), due[event][what]);
            }
        }
    }

    @Says(in = "Promise 11", text = "3: 1 if ENDLESS, else 0")
    static void eventTellsWhetherItIsEndless() {
        CoverHouses x = Edges.told(Edges.ABC + "share s of a:1000 to b when day=0;share t of b:1000 to a;", 9);
        x.loss(0, 0, 0, 0, 0, 5);
        x.loss(0, 200, 0, 0, 0, 5);
        Edges.due("ENDLESS", x.event(0, 3), 1);
        Edges.due("its ROUNDS", x.event(0, 2), 2000);
        Edges.due("not ENDLESS", x.event(1, 3), 0);
        Edges.due("its ROUNDS", x.event(1, 2), 1);
        Edges.due("DIRECT of all of an ENDLESS one", x.event(0, 4), 5);
    }

    @Says(in = "Promise 11", text = "NONE: none such.")
    static void eventRefusesAnotherEventAndAnotherWhat() {
        CoverHouses x = twoEvents();
        for (int event : new int[] {-1, 2, 59, 60, LEAST, MOST}) {
            Edges.due("EVENT " + event, x.event(event, 0), Edges.NONE);
        }
        for (int what : new int[] {-1, 5, LEAST, MOST}) {
            Edges.due("what " + what, x.event(0, what), Edges.NONE);
        }
        Edges.due("there are none", Edges.told("house a;").event(0, 0), Edges.NONE);
    }

    // ---- 12: eventOf

    @Says(in = "Promise 12", text = "The EVENT of a LOSS;")
    static void eventOfTellsTheEvent() {
        CoverHouses x = twoEvents();
        Edges.due("LOSS 0", x.eventOf(0), 1);
        Edges.due("LOSS 1", x.eventOf(1), 0);
        Edges.due("LOSS 2", x.eventOf(2), 0);
    }

    @Says(in = "Promise 12", text = "NONE: it doesn't count, none such.")
    static void eventOfTellsNoneOfALossThatDoesNotCountOrIsNot() {
        CoverHouses x = twoEvents();
        x.loss(3, 0, 0, 0, 0, 5);
        x.loss(0, 0, 0, 0, 0, 0);
        x.loss(0, 0, 0, 0, 5, 5);
        x.leave(5, true);
        x.days(1);
        x.loss(0, 0, 0, 0, 0, 5);
        x.view(20);
        for (int loss = 3; loss <= 6; loss++) {
            Edges.due("LOSS " + loss, x.eventOf(loss), Edges.NONE);
        }
        for (int loss : new int[] {-1, 7, 59, 60, LEAST, MOST}) {
            Edges.due("LOSS " + loss, x.eventOf(loss), Edges.NONE);
        }
    }

    // ---- 13: gross

    @Says(in = "Promise 13", text = "Of a HOUSE in an EVENT, what 0: DIRECT, 1: GROSS, 2: ALL behind its treaties;")
    static void grossTellsThreeNumbers() {
        CoverHouses x = twoEvents();
        // b: 7 and 25 of a, of which 27 above 5 go to the layer: 24 to c. Later 20, of which 15: 13 to c.
        int[][] due = {{100, 100, 50}, {7, 32, 8}, {0, 49, 49}};
        for (int house = 0; house < 3; house++) {
            for (int what = 0; what <= 2; what++) {
                Edges.due("HOUSE " + house + " what " + what, x.gross(0, house, what), due[house][what]);
            }
        }
        Edges.due("b in the other EVENT", x.gross(1, 1, 2), 7);
        Edges.due("c in the other EVENT", x.gross(1, 2, 1), 33);
    }

    @Says(in = "Promise 13", text = "NONE: none such.")
    static void grossRefusesAnotherEventHouseOrWhat() {
        CoverHouses x = twoEvents();
        for (int other : new int[] {-1, LEAST, MOST}) {
            Edges.due("EVENT " + other, x.gross(other, 0, 0), Edges.NONE);
            Edges.due("HOUSE " + other, x.gross(0, other, 0), Edges.NONE);
            Edges.due("what " + other, x.gross(0, 0, other), Edges.NONE);
        }
        Edges.due("EVENT 2", x.gross(2, 0, 0), Edges.NONE);
        Edges.due("HOUSE 3, that is not told", x.gross(0, 3, 0), Edges.NONE);
        Edges.due("HOUSE 11", x.gross(0, 11, 0), Edges.NONE);
        Edges.due("HOUSE 12", x.gross(0, 12, 0), Edges.NONE);
        Edges.due("what 3", x.gross(0, 0, 3), Edges.NONE);
    }

    @Says(in = "Promise 13", text = "(ENDLESS: GROSS is DIRECT.)")
    static void grossOfAnEndlessEventIsDirect() {
        CoverHouses x = Edges.told(Edges.ABC + "share s of a:1000 to b;share t of b:1000 to a;share u of a own:1 to c;");
        x.loss(0, 0, 0, 0, 0, 5);
        x.loss(1, 0, 0, 0, 0, 3);
        int[] direct = {5, 3, 0};
        for (int house = 0; house < 3; house++) {
            for (int what = 0; what <= 2; what++) {
                Edges.due("HOUSE " + house + " what " + what, x.gross(0, house, what), direct[house]);
            }
        }
    }

    // ---- 14: treaty

    @Says(in = "Promise 14", text = "Of a treaty (in the wording's order) in an EVENT, what 0: base, 1: USE of a layer (of a share: all "
            + "that it pays), 2: what all its PARTS pay, 3: REINSTATED, 4: the premium for that;")
    static void treatyTellsFiveNumbers() {
        CoverHouses x = twoEvents();
        int[][][] due = {{{100, 50, 50, 0, 0}, {32, 27, 24, 27, 54}}, {{80, 40, 40, 0, 0}, {20, 15, 13, 3, 6}}};
        for (int event = 0; event < 2; event++) {
            for (int treaty = 0; treaty < 2; treaty++) {
                for (int what = 0; what <= 4; what++) {
                    Edges.due("EVENT " + event + " treaty " + treaty + " what " + what, x.treaty(event, treaty, what),
                            due[event][treaty][what]);
                }
            }
        }
    }

    @Says(in = "Promise 14", text = "Of a treaty (in the wording's order)")
    static void treatiesAreNumberedInTheWordingsOrderWhosoeverTheyAre() {
        CoverHouses x = Edges.told("house a;house b;share s of b:10 to a;share t of a:20 to b;layer l of b:9 over 0 30 to a;");
        x.loss(0, 0, 0, 0, 0, 1000);
        Edges.due("of b", x.treaty(0, 0, 0), 20);
        Edges.due("of a", x.treaty(0, 1, 1), 20);
        Edges.due("of b again", x.treaty(0, 2, 1), 9);
        Edges.due("the layer is 2", x.left(2), 0);
    }

    @Says(in = "Promise 14", text = "1: USE of a layer (of a share: all that it pays)")
    static void aShareTellsWhatItPaysCutForEachPart() {
        CoverHouses x = Edges.told(Edges.ABC + "share s of a:500 to b and 500 to c;");
        x.loss(0, 0, 0, 0, 0, 3);
        Edges.due("1 and 1 of 3", x.treaty(0, 0, 1), 2);
        Edges.due("the same", x.treaty(0, 0, 2), 2);
        Edges.due("the base is 3", x.treaty(0, 0, 0), 3);
    }

    @Says(in = "Promise 14", text = "0 if it pays nothing (base, too);")
    static void aTreatyThatPaysNothingTells0() {
        CoverHouses x = Edges.told(Edges.ABC + "share s of a:500 to b when 0;layer l of a:10 over 0 500 to b again 1 at 5 when hit=2;"
                + "share t of a:500 to c;layer m of a:10 over 0 500 to c again 1 at 5;");
        x.loss(0, 0, 0, 0, 0, 100);
        x.commute(2, 50);
        x.commute(3, 50);
        for (int treaty = 0; treaty <= 3; treaty++) {
            for (int what = 0; what <= 4; what++) {
                Edges.due("treaty " + treaty + " what " + what, x.treaty(0, treaty, what), 0);
            }
        }
        x.loss(1, 0, 0, 0, 0, 1);
        Edges.due("with hit 2 it pays", x.treaty(0, 1, 0), 100);
    }

    @Says(in = "Promise 14", text = "NONE: none such.")
    static void treatyRefusesAnotherEventTreatyOrWhat() {
        CoverHouses x = twoEvents();
        for (int other : new int[] {-1, LEAST, MOST}) {
            Edges.due("EVENT " + other, x.treaty(other, 0, 0), Edges.NONE);
            Edges.due("treaty " + other, x.treaty(0, other, 0), Edges.NONE);
            Edges.due("what " + other, x.treaty(0, 0, other), Edges.NONE);
        }
        Edges.due("EVENT 2", x.treaty(2, 0, 0), Edges.NONE);
        Edges.due("treaty 2", x.treaty(0, 2, 0), Edges.NONE);
        Edges.due("treaty 24", x.treaty(0, 24, 0), Edges.NONE);
        Edges.due("what 5", x.treaty(0, 0, 5), Edges.NONE);
    }

    // ---- 15: left

    @Says(in = "Promise 15", text = "What is left of a layer behind all EVENTS;")
    static void leftIsTheLimitTimesAllLessAllUses() {
        CoverHouses x = twoEvents();
        Edges.due("behind both", x.left(1), 60 - 27 - 15);
        x.view(19);
        Edges.due("all of it ahead of the LOSSES", x.left(1), 60);
        x.view(20);
        x.commute(1, 5);
        Edges.due("all of it where it is COMMUTED", x.left(1), 60);
        CoverHouses y = Edges.told(Edges.ABC + "layer l of a:999999 over 0 1 to b again 9 at 0;layer m of a:1 over 0 1 to b;");
        Edges.due("the most", y.left(0), 9999990);
        Edges.due("the least", y.left(1), 1);
        y.loss(0, 0, 0, 0, 0, 1);
        Edges.due("0", y.left(1), 0);
        Edges.due("one less", y.left(0), 9999989);
    }

    @Says(in = "Promise 15", text = "NONE: none such, a share.")
    static void leftRefusesAShareAndATreatyThatThereIsNot() {
        CoverHouses x = twoEvents();
        for (int treaty : new int[] {0, -1, 2, 23, 24, LEAST, MOST}) {
            Edges.due("treaty " + treaty, x.left(treaty), Edges.NONE);
        }
        Signs.wording(x, Edges.ABC + "layer l of c:9 over 0 1 to b;share s of a:1 to b;");
        Edges.due("a layer now", x.left(0), 9);
        Edges.due("a share now", x.left(1), Edges.NONE);
        Signs.wording(x, "");
        Edges.due("no treaties", x.left(0), Edges.NONE);
    }

    // ---- 16: commute

    @Says(in = "Promise 16", text = "COMMUTED: true;")
    static void commuteTakesSums0To999999OfSharesAndLayers() {
        for (int sum : new int[] {0, 1, 999998, 999999}) {
            CoverHouses x = twoEvents();
            Edges.taken("a share", x.commute(0, sum));
            Edges.taken("a layer", x.commute(1, sum));
            Edges.due("COMMUTED", x.count(7), 2);
            Edges.due("b to a", x.owed(1, 0), sum * 250L / 1000);
            Edges.due("c to b", x.owed(2, 1), sum * 900L / 1000);
        }
    }

    @Says(in = "Promise 16", text = "false: no such treaty, another sum, it is.")
    static void commuteRefusesWhatThereIsNotOrIsCommuted() {
        CoverHouses x = twoEvents();
        for (int treaty : new int[] {-1, 2, 23, 24, LEAST, MOST}) {
            Edges.refused("treaty " + treaty, x.commute(treaty, 5));
        }
        for (int sum : new int[] {-1, 1000000, LEAST, MOST}) {
            Edges.refused("sum " + sum, x.commute(0, sum));
        }
        Edges.due("COMMUTED", x.count(7), 0);
        Edges.taken("now", x.commute(0, 8));
        for (int sum : new int[] {0, 8, 9, -1}) {
            Edges.refused("it is", x.commute(0, sum));
        }
        x.days(1);
        Edges.refused("it is, later", x.commute(0, 100));
        x.view(0);
        Edges.refused("it is, whatever THE VIEW", x.commute(0, 100));
        x.view(21);
        Edges.due("the first sum", x.owed(1, 0), 2);
        Edges.due("no treaties at all", new CoverHouses().commute(0, 0) ? 1 : 0, 0);
    }

    // ---- 17: owed

    @Says(in = "Promise 17", text = "OWED a to b.")
    static void owedTellsWhatAOwesB() {
        CoverHouses x = twoEvents();
        int[][] due = {{0, 0, 0}, {25 + 20, 0, 48 + 5}, {25 + 20, 24 + 13, 0}};
        for (int a = 0; a < 3; a++) {
            for (int b = 0; b < 3; b++) {
                if (a != b) {
                    Edges.due(a + " to " + b, x.owed(a, b), due[a][b]);
                }
            }
        }
    }

    @Says(in = "Promise 17", text = "NoSuchElementException: no such HOUSES, the same.")
    static void owedThrowsForOtherHousesAndTheSame() {
        CoverHouses x = twoEvents();
        for (int other : new int[] {-1, 3, 11, 12, LEAST, MOST}) {
            Edges.throwsNoSuchElement(other + " to 0", () -> x.owed(other, 0));
            Edges.throwsNoSuchElement("0 to " + other, () -> x.owed(0, other));
            Edges.throwsNoSuchElement("both " + other, () -> x.owed(other, other));
        }
        for (int house = 0; house < 3; house++) {
            int same = house;
            Edges.throwsNoSuchElement("the same " + same, () -> x.owed(same, same));
        }
    }

    // ---- 18: bears

    @Says(in = "Promise 18", text = "BEARS.")
    static void bearsTellsWhatEachBears() {
        CoverHouses x = twoEvents();
        Edges.due("a", x.bears(0), 180 - 45 - 45);
        Edges.due("b", x.bears(1), 7 + 45 - 37 + 53);
        Edges.due("c", x.bears(2), 45 + 37 - 53);
    }

    @Says(in = "Promise 18", text = "NoSuchElementException: no such HOUSE.")
    static void bearsThrowsForAHouseThatThereIsNot() {
        CoverHouses x = twoEvents();
        for (int other : new int[] {-1, 3, 11, 12, LEAST, MOST}) {
            Edges.throwsNoSuchElement("HOUSE " + other, () -> x.bears(other));
        }
        Signs.wording(x, "house a;");
        Edges.throwsNoSuchElement("told no more", () -> x.bears(1));
        Edges.due("the one that is", x.bears(0), 180);
    }
}
