import java.io.IOException;
import java.util.NoSuchElementException;
import java.util.Random;

/** What the document says ahead of its Terms and behind its promises: a small run for each thing that is told. */
public final class WhatItIsEdgesTest {
    private static final String IN = "What it is";
    private static final String NOT = "Not promised";
    private static final String RING = "house a;house b;share s of a:500 to b;share t of b:500 to a;";
    private static final int CALLS = 512;

    private WhatItIsEdgesTest() {
    }

    public static void main(String[] args) throws IOException, ReflectiveOperationException {
        Edges.runAll(WhatItIsEdgesTest.class);
    }

    @Says(in = IN, text = "Cover houses: houses that pass risk on to one another in shares and layers told in a wording,")
    static void riskIsPassedOnInSharesAndLayers() {
        CoverHouses x = Edges.told(Edges.ABC + "share s of a:500 to b;layer l of b:100 over 50 1000 to c;");
        x.loss(0, 0, 0, 0, 0, 400);
        Edges.due("a keeps half", x.gross(0, 0, 2), 200);
        Edges.due("b keeps the other half but for the layer", x.gross(0, 1, 2), 100);
        Edges.due("c keeps the layer", x.gross(0, 2, 2), 100);
    }

    @Says(in = IN, text = "so that one storm goes round until what all owe agrees,")
    static void aStormGoesRoundUntilAllAgrees() {
        CoverHouses x = Edges.told(RING);
        x.loss(0, 0, 0, 0, 0, 100);
        // 100 0, 100 50, 125 50, 125 62, 131 62, 131 65, 132 65, 132 66, 133 66, and that again.
        Edges.due("rounds", x.event(0, 2), 9);
        Edges.due("GROSS of a", x.gross(0, 0, 1), 133);
        Edges.due("GROSS of b", x.gross(0, 1, 1), 66);
    }

    @Says(in = IN, text = "layers that are reinstated for a premium,")
    static void aLayerIsReinstatedForAPremium() {
        CoverHouses x = Edges.told(Edges.ABC + "layer l of a:100 over 0 1000 to b again 1 at 30;", 9);
        x.loss(0, 0, 0, 0, 0, 100);
        x.loss(0, 168, 0, 0, 0, 60);
        Edges.due("REINSTATED", x.treaty(0, 0, 3), 100);
        Edges.due("the premium", x.treaty(0, 0, 4), 30);
        Edges.due("a owes it", x.owed(0, 1), 30);
        Edges.due("USE of the second EVENT", x.treaty(1, 0, 1), 60);
        Edges.due("nothing more is REINSTATED", x.treaty(1, 0, 3), 0);
        Edges.due("left", x.left(0), 40);
    }

    @Says(in = IN, text = "what is one event by hours and miles and where a house would rather have it split,")
    static void hoursAndMilesMakeAnEventAndAHouseWantsItSplit() {
        CoverHouses x = Edges.told("event 0 hours 24 miles 10;" + Edges.ABC + "layer l of a:100 over 0 1000 to b again 9 at 0;", 1);
        x.loss(0, 0, 0, 0, 0, 100);
        x.loss(0, 23, 10, 0, 0, 100);
        Edges.due("one EVENT", x.events(), 1);
        Edges.due("a wants it split", x.wants(0), 1);
        Edges.due("b does not", x.wants(1), Edges.NONE);
        x.loss(0, 23, 11, 0, 0, 100);
        x.loss(0, 24, 0, 0, 0, 100);
        Edges.due("too far, and too late", x.events(), 3);
    }

    @Says(in = IN, text = "what each house owes and bears, netted,")
    static void whatIsOwedIsBorneAndNetted() {
        CoverHouses x = Edges.told(RING);
        x.loss(0, 0, 0, 0, 0, 100);
        Edges.due("b owes a", x.owed(1, 0), 66);
        Edges.due("a owes b", x.owed(0, 1), 33);
        Edges.due("a bears", x.bears(0), 67);
        Edges.due("b bears", x.bears(1), 33);
        Edges.due("NET of b", x.clears(1, 0), 33);
        Edges.due("NET of a", x.clears(0, 0), 0);
    }

    @Says(in = IN, text = "houses that fail and what they pay in shares,")
    static void aHouseThatFailsPaysInShares() {
        CoverHouses x = Edges.told(Edges.ABC + "share s of a:600 to b;share t of c:400 to b;");
        x.commute(0, 100);
        x.commute(1, 100);
        x.purse(1, 50);
        Edges.due("b FAILED", x.clears(1, 3), 1);
        Edges.due("all that b owes", x.clears(1, 0), 100);
        Edges.due("b pays", x.clears(1, 1), 50);
        Edges.due("a gets its share", x.clears(0, 2), 30);
        Edges.due("c gets its share", x.clears(2, 2), 20);
    }

    @Says(in = IN, text = "treaties that are commuted,")
    static void aCommutedTreatyPaysItsSumAlone() {
        CoverHouses x = Edges.told(RING);
        x.loss(0, 0, 0, 0, 0, 100);
        Edges.taken("commuted", x.commute(0, 70));
        Edges.due("b owes half of the sum", x.owed(1, 0), 35);
        Edges.due("b has no GROSS", x.gross(0, 1, 1), 0);
        Edges.due("a bears", x.bears(0), 65);
    }

    @Says(in = IN, text = "losses told late and foretold from the past,")
    static void lossesToldLateAreForetoldFromThePast() {
        CoverHouses x = Edges.newOn(400);
        x.loss(0, 0, 0, 0, 0, 5);
        x.loss(0, 400 * 24, 0, 0, 0, 40);
        Edges.pass(x, 330);
        // Nothing of YEAR 0 was KNOWN on its last DAY, so that its growth tells nothing.
        Edges.due("YEAR 0 in time", x.known(0, 0, 0), 0);
        Edges.due("YEAR 0 a YEAR late", x.known(0, 0, 1), 5);
        Edges.due("FACTOR", x.factor(0, 0), 1000);
        Edges.due("FORETOLD", x.foretold(0, 1), 40);
        CoverHouses y = new CoverHouses();
        y.loss(0, 0, 0, 0, 0, 100);
        Edges.pass(y, 400);
        y.word(0, 150);
        y.loss(0, 400 * 24, 0, 0, 0, 40);
        Edges.pass(y, 329);
        Edges.due("FACTOR of half as much again", y.factor(0, 0), 1500);
        Edges.due("FORETOLD by it", y.foretold(0, 1), 60);
    }

    @Says(in = IN, text = "the worst storms for a house,")
    static void theWorstStormsAreTold() {
        CoverHouses x = Edges.told(Edges.ABC);
        x.loss(0, 0, 0, 0, 1, 10);
        x.loss(0, 0, 0, 0, 3, 30);
        x.loss(0, 0, 0, 0, 5, 20);
        x.loss(1, 0, 0, 0, 0, 90);
        Edges.due("one", x.worst(0, 1), 8);
        Edges.due("two", x.worst(0, 2), 8 + 32);
        Edges.due("all", x.worst(0, 6), 2 + 8 + 32);
    }

    @Says(in = IN, text = "and all of it as it was known on any day. ==== 1.")
    static void allIsToldAsItWasKnownOnAnyDay() {
        CoverHouses x = Edges.told(RING);
        x.loss(0, 0, 0, 0, 0, 100);
        x.days(10);
        x.word(0, 200);
        x.days(10);
        x.commute(0, 0);
        int[][] known = {{0, 67}, {9, 67}, {10, 133}, {19, 133}, {20, 200}};
        for (int[] dayAndBurden : known) {
            Edges.taken("THE VIEW", x.view(dayAndBurden[0]));
            Edges.due("a bears as known on " + dayAndBurden[0], x.bears(0), dayAndBurden[1]);
        }
    }

    @Says(in = IN, text = "An object is used for at most 512 calls after it has been made;")
    static void allOf512CallsAreAnswered() {
        for (int seed = 0; seed < 20; seed++) {
            CoverHouses x = new CoverHouses();
            PlainHouses plain = new PlainHouses();
            Random random = new Random(seed);
            for (int call = 1; call <= CALLS; call++) {
                oneCall(x, plain, random, "call " + call + " of seed " + seed);
            }
        }
    }

    /** One call alone, so that exactly 512 are made; the wording comes by its bytes first. */
    private static void oneCall(CoverHouses x, PlainHouses plain, Random random, String what) {
        long[] abc = Signs.packed(RING, plain.tape.length());
        if (plain.deed.houses.isEmpty() && plain.tape.length() < RING.length()) {
            Edges.due(what, x.feed(abc[0], abc[1], abc[2]), plain.feed(abc[0], abc[1], abc[2]));
        } else if (plain.deed.houses.isEmpty()) {
            Edges.due(what, x.wording(), plain.wording());
        } else {
            changeOrAsk(x, plain, random, what);
        }
    }

    private static void changeOrAsk(CoverHouses x, PlainHouses plain, Random random, String what) {
        int some = random.nextInt(60);
        switch (random.nextInt(7)) {
            case 0:
                Edges.due(what, x.loss(some % 2, some, 0, 0, some % 6, some), plain.loss(some % 2, some, 0, 0, some % 6, some));
                break;
            case 1:
                Edges.need(what, x.word(some, some) == plain.word(some, some));
                break;
            case 2:
                Edges.due(what, x.days(some % 3), plain.days(some % 3));
                break;
            case 3:
                Edges.due(what, x.bears(some % 2), plain.bears(some % 2));
                break;
            case 4:
                Edges.due(what, x.gross(some % 4, some % 2, 1), plain.gross(some % 4, some % 2, 1));
                break;
            case 5:
                Edges.due(what, x.clears(some % 2, 1), plain.clears(some % 2, 1));
                break;
            default:
                Edges.due(what, x.count(some % 11), plain.count(some % 11));
                break;
        }
    }

    /** Free is what they answer; rule 7 of LANGUAGE.md still holds. */
    @Says(in = IN, text = "what later calls answer is free.")
    static void laterCallsThrowNothingElse() {
        CoverHouses x = Edges.told(RING);
        for (int call = 0; call < 4 * CALLS; call++) {
            x.loss(call % 2, 0, 0, 0, call % 6, call);
            x.word(call % 60, call);
            x.feed(call * 0x0101010101010101L, 0x2020202020202020L, -1);
        }
        Edges.due("LOSSES", x.count(2), 60);
        Edges.due("words", x.count(3), 300);
        Edges.due("signs", x.count(9), 1500);
    }

    @Says(in = "The constants", text = "`NONE = -1`: None.")
    static void noneIsMinus1() {
        Edges.due("NONE", CoverHouses.NONE, -1);
    }

    @Says(in = NOT, text = "How the state is held inside the object is free, as are the speed of each call, the text of toString and "
            + "the behaviour of equals and hashCode. Use of one object from several threads at once is not promised to be safe.")
    static void theStateIsHeldInsideTheObjectAlone() {
        CoverHouses x = Edges.told(RING);
        CoverHouses y = Edges.told(Edges.ABC);
        x.loss(0, 0, 0, 0, 0, 100);
        y.days(3);
        y.loss(1, 72, 0, 0, 0, 7);
        x.feed(0x6162630000000000L, 0, 0);
        y.purse(1, 7);
        Edges.due("a of the one bears", x.bears(0), 67);
        Edges.due("b of the other bears", y.bears(1), 7);
        Edges.due("NOW of the one", x.count(4), 0);
        Edges.due("NOW of the other", y.count(4), 3);
        Edges.due("the TAPE of the one", x.count(9), 3);
        Edges.due("the TAPE of the other", y.count(9), 0);
        Edges.due("FAILED of the one", x.count(8), 2);
        Edges.due("FAILED of the other", y.count(8), 0);
    }

    @Says(in = NOT, text = "Nothing is promised beyond the answers and state changes described above, and nothing about an object after its "
            + "512th call.")
    static void whatOnlyAsksChangesNothing() {
        CoverHouses asked = Edges.told(RING, 9);
        CoverHouses silent = Edges.told(RING, 9);
        for (CoverHouses x : new CoverHouses[] {asked, silent}) {
            x.loss(0, 0, 0, 0, 0, 100);
            x.loss(1, 200, 0, 0, 1, 50);
            x.purse(0, 60);
        }
        askAll(asked);
        askAll(asked);
        for (int house = 0; house < 2; house++) {
            Edges.due("bears", asked.bears(house), silent.bears(house));
            Edges.due("pays", asked.clears(house, 1), silent.clears(house, 1));
            Edges.due("wants", asked.wants(house), silent.wants(house));
            Edges.due("worst", asked.worst(house, 1), silent.worst(house, 1));
            Edges.due("GROSS", asked.gross(1, house, 1), silent.gross(1, house, 1));
        }
        for (int what = 0; what <= 9; what++) {
            Edges.due("count " + what, asked.count(what), silent.count(what));
        }
    }

    private static void askAll(CoverHouses x) {
        for (int house = -1; house <= 2; house++) {
            x.wants(house);
            x.worst(house, 2);
            x.known(house, 0, 0);
            x.factor(house, 0);
            x.foretold(house, 0);
            x.gross(0, house, 1);
            x.treaty(1, house, 1);
            x.left(house);
            x.eventOf(house);
            askOrThrow(x, house);
        }
    }

    private static void askOrThrow(CoverHouses x, int house) {
        try {
            x.look(house, 5);
            x.owed(house, 1 - house);
            x.bears(house);
            x.clears(house, 4);
        } catch (NoSuchElementException e) {
            Edges.need("there is no such HOUSE or LOSS", house < 0 || house > 1);
        }
    }
}
