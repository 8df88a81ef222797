import java.io.IOException;

/** Promises 1 to 9: the calls that tell something. What they refuse changes nothing: see RefusedEdgesTest. */
public final class Promises1To9EdgesTest {
    private static final long BLANKS = 0x2020202020202020L;

    private Promises1To9EdgesTest() {
    }

    public static void main(String[] args) throws IOException, ReflectiveOperationException {
        Edges.runAll(Promises1To9EdgesTest.class);
    }

    // ---- 1: a new object

    @Says(in = "Promise 1", text = "No wording, no LOSS; NOW is 0.")
    static void aNewObjectCountsNothing() {
        CoverHouses x = new CoverHouses();
        for (int what = 0; what <= 9; what++) {
            Edges.due("count " + what, x.count(what), 0);
        }
    }

    @Says(in = "Promise 1", text = "No wording, no LOSS; NOW is 0.")
    static void aNewObjectTellsNone() {
        CoverHouses x = new CoverHouses();
        Edges.due("EVENTS", x.events(), 0);
        for (int what = 0; what <= 4; what++) {
            Edges.due("event", x.event(0, what), Edges.NONE);
            Edges.due("gross", x.gross(0, 0, what), Edges.NONE);
            Edges.due("treaty", x.treaty(0, 0, what), Edges.NONE);
        }
        Edges.due("eventOf", x.eventOf(0), Edges.NONE);
        Edges.due("left", x.left(0), Edges.NONE);
        Edges.due("wants", x.wants(0), Edges.NONE);
        Edges.due("worst", x.worst(0, 1), Edges.NONE);
        Edges.due("known", x.known(0, 0, 0), Edges.NONE);
        Edges.due("foretold", x.foretold(0, 0), Edges.NONE);
        Edges.due("factor of what there isn't yet", x.factor(0, 0), 1000);
    }

    @Says(in = "Promise 1", text = "No wording, no LOSS; NOW is 0.")
    static void aNewObjectRefusesAndThrows() {
        CoverHouses x = new CoverHouses();
        Edges.refused("a word", x.word(0, 1));
        Edges.refused("a SPLIT", x.split(0, true));
        Edges.refused("to commute", x.commute(0, 1));
        Edges.refused("a VIEW behind NOW", x.view(1));
        Edges.throwsNoSuchElement("owed", () -> x.owed(0, 1));
        Edges.throwsNoSuchElement("bears", () -> x.bears(0));
        Edges.throwsNoSuchElement("clears", () -> x.clears(0, 0));
        Edges.throwsNoSuchElement("look", () -> x.look(0, 0));
    }

    @Says(in = "Promise 1", text = "No wording, no LOSS; NOW is 0.")
    static void twoObjectsHaveNothingInCommon() {
        CoverHouses x = Edges.told("house a;", 3);
        CoverHouses y = new CoverHouses();
        x.loss(0, 0, 0, 0, 0, 5);
        Edges.due("HOUSES", y.count(0), 0);
        Edges.due("LOSSES", y.count(2), 0);
        Edges.due("NOW", y.count(4), 0);
        Signs.wording(y, "house b;house c;");
        Edges.due("HOUSES of the first", x.count(0), 1);
        Edges.due("LOSSES of the first", x.count(6), 1);
    }

    // ---- 2: days

    @Says(in = "Promise 2", text = "n DAYS pass (0 to 1000): NOW;")
    static void daysTakes0To1000() {
        CoverHouses x = new CoverHouses();
        Edges.due("0", x.days(0), 0);
        Edges.due("1", x.days(1), 1);
        Edges.due("999", x.days(999), 1000);
        Edges.due("1000", x.days(1000), 2000);
        Edges.due("0 again", x.days(0), 2000);
    }

    @Says(in = "Promise 2", text = "NONE for another n")
    static void daysRefusesAnotherN() {
        CoverHouses x = Edges.newOn(5);
        for (int n : new int[] {-1, 1001, 1002, -1000, Integer.MIN_VALUE, Integer.MAX_VALUE}) {
            Edges.due("n " + n, x.days(n), Edges.NONE);
        }
        Edges.due("NOW", x.count(4), 5);
    }

    @Says(in = "Promise 2", text = "beyond 9999.")
    static void daysRefusesWhatIsBeyond9999() {
        for (int n = 1; n <= 1000; n += 333) {
            CoverHouses x = Edges.newOn(9999 - n);
            Edges.due("one beyond", x.days(n + 1), Edges.NONE);
            Edges.due("NOW", x.count(4), 9999 - n);
            Edges.due("the last", x.days(n), 9999);
            Edges.due("none more", x.days(1), Edges.NONE);
            Edges.due("0 more", x.days(0), 9999);
        }
    }

    // ---- 3: view

    @Says(in = "Promise 3", text = "THE VIEW: true; false: a DAY behind NOW, below 0.")
    static void viewTakes0ToNow() {
        CoverHouses x = Edges.newOn(7);
        for (int day = 0; day <= 7; day++) {
            Edges.taken("DAY " + day, x.view(day));
            Edges.due("THE VIEW", x.count(5), day);
        }
        CoverHouses y = Edges.newOn(9999);
        Edges.taken("9999", y.view(9999));
        Edges.taken("0", y.view(0));
    }

    @Says(in = "Promise 3", text = "false: a DAY behind NOW, below 0.")
    static void viewRefusesADayBehindNowAndBelow0() {
        CoverHouses x = Edges.newOn(7);
        x.view(3);
        for (int day : new int[] {8, 9, 9999, 10000, -1, -2, Integer.MIN_VALUE, Integer.MAX_VALUE}) {
            Edges.refused("DAY " + day, x.view(day));
            Edges.due("THE VIEW", x.count(5), 3);
        }
        CoverHouses y = Edges.newOn(9999);
        Edges.refused("10000", y.view(10000));
        Edges.refused("-1", y.view(-1));
        CoverHouses z = new CoverHouses();
        Edges.refused("1 on DAY 0", z.view(1));
        z.days(1);
        Edges.due("THE VIEW is NOW still", z.count(5), 1);
    }

    // ---- 4: feed

    @Says(in = "Promise 4", text = "Up to 24 signs come behind the TAPE:")
    static void feedTakes0To24Signs() {
        CoverHouses x = new CoverHouses();
        Edges.due("none", x.feed(0L, 0L, 0L), 0);
        Edges.due("one", x.feed(0L, 0L, 0x3bL), 1);
        Edges.due("24", x.feed(BLANKS, BLANKS, BLANKS), 25);
        Edges.due("behind the TAPE", x.feed(0x2100000000000000L, 0L, 0L), 26);
        Edges.due("the first sign of all is the FAULT", x.wording(), 1);
        Edges.due("from the begin again", x.feed(BLANKS, 0L, 0L), 8);
    }

    @Says(in = "Promise 4", text = "the bytes of a, b, c, of each the highest first;")
    static void feedTakesAThenBThenCTheHighestByteFirst() {
        CoverHouses x = new CoverHouses();
        // "house ab", "cdefgh;h", "ouse z; "
        x.feed(0x686f757365206162L, 0x6364656667683b68L, 0x6f757365207a3b20L);
        Edges.due("read in that order", x.wording(), 0);
        Edges.due("HOUSES", x.count(0), 2);
        for (int place = 0; place < 24; place++) {
            long[] abc = {BLANKS, BLANKS, BLANKS};
            abc[place / 8] ^= 0x01L << (56 - 8 * (place % 8));
            x.feed(abc[0], abc[1], abc[2]);
            Edges.due("the sign ! at " + place, x.wording(), 1 + 16 * place);
        }
    }

    @Says(in = "Promise 4", text = "others than 10 and 32 .. 126")
    static void feedLeavesOtherBytesOut() {
        CoverHouses x = new CoverHouses();
        Edges.due("0, 9, 10, 11, 31, 32, 126, 127", x.feed(0x00090a0b1f207e7fL, 0L, 0L), 3);
        Edges.due("128, 138, 160, 254, 255 and -1", x.feed(0x808aa0feff000000L, -1L, Long.MIN_VALUE), 3);
        Edges.due("the greatest long", x.feed(0L, Long.MAX_VALUE, 0L), 3);
        Edges.due("the sign 126 is at 2", x.wording(), 1 + 16 * 2);
    }

    @Says(in = "Promise 4", text = "and what is beyond 1,500, are left out: how many there are.")
    static void feedLeavesOutWhatIsBeyond1500() {
        CoverHouses x = new CoverHouses();
        for (int i = 1; i <= 62; i++) {
            Edges.due("24 more", x.feed(BLANKS, BLANKS, BLANKS), 24 * i);
        }
        Edges.due("12 of 13 more", x.feed(BLANKS, 0x3b2020207e000000L, 0L), 1500);
        Edges.due("none more", x.feed(0x3b3b3b3b3b3b3b3bL, 0x3b3b3b3b3b3b3b3bL, 0x3b3b3b3b3b3b3b3bL), 1500);
        Edges.due("count", x.count(9), 1500);
        Edges.due("the first FAULT is in the last row", x.wording(), 1 + 16 * 1496);
        Edges.due("there is room again", x.feed(BLANKS, BLANKS, BLANKS), 24);
    }

    @Says(in = "Promise 4", text = "and what is beyond 1,500, are left out: how many there are.")
    static void feedTakesThe1500thSignAndNotThe1501st() {
        CoverHouses x = new CoverHouses();
        Signs.feed(x, Edges.repeated(" ", 1499));
        Edges.due("1499", x.count(9), 1499);
        Edges.due("one of two", x.feed(0x2021000000000000L, 0L, 0L), 1500);
        Edges.due("the second is left out", x.wording(), 0);
        Signs.feed(x, Edges.repeated(" ", 1499));
        Edges.due("one more", x.feed(0x2100000000000000L, 0L, 0L), 1500);
        Edges.due("it is there", x.wording(), 1 + 16 * 1499);
    }

    // ---- 5: wording

    @Says(in = "Promise 5", text = "The TAPE is read as a WORDING: 0, or its FAULT")
    static void wordingAnswers0OrTheFault() {
        CoverHouses x = new CoverHouses();
        Edges.due("an empty TAPE", x.wording(), 0);
        Edges.due("a WORDING", Signs.wording(x, "house a;"), 0);
        Edges.due("the least FAULT", Signs.wording(x, "("), 1);
        Edges.due("the greatest place", Signs.wording(x, "house" + Edges.repeated(" ", 1495)), 1 + 16 * 1500);
    }

    @Says(in = "Promise 5", text = "(the one ahead stays then).")
    static void behindAFaultTheWordingAheadStays() {
        CoverHouses x = Edges.told(Edges.ABC + "event 0 hours 5 miles 5;share s of a:500 to b when losses=1;"
                + "layer l of b:7 over 1 1000 to c again 1 at 9;", 3);
        x.loss(0, 0, 0, 0, 0, 100);
        x.loss(0, 5, 0, 0, 0, 10);
        x.commute(1, 3);
        String[] faults = {"!", "house z;house y;event 0 hours 9 miles 9;share t of z:1000 to y;share u of y:1 to z",
            "layer", "house a;house b;house c;layer m of a:1 over 1 1 to b when ((((1))));"};
        for (String fault : faults) {
            Edges.need(fault + " is one", Signs.wording(x, fault) > 0);
            Edges.due("HOUSES", x.count(0), 3);
            Edges.due("treaties", x.count(1), 2);
            Edges.due("COMMUTED", x.count(7), 1);
            Edges.due("EVENTS", x.events(), 2);
            Edges.due("owed", x.owed(1, 0), 55);
            Edges.due("owed by the sum", x.owed(2, 1), 3);
            Edges.due("left", x.left(1), 14);
        }
    }

    // ---- 6: loss

    @Says(in = "Promise 6", text = "A LOSS: its number;")
    static void lossesAreNumberedFrom0() {
        CoverHouses x = Edges.newOn(4);
        for (int i = 0; i < 60; i++) {
            Edges.due("number", x.loss(i % 12, 119 - i, i, i % 8, i % 6, i), i);
        }
        Edges.due("hour of the last", x.look(59, 1), 60);
    }

    @Says(in = "Promise 6", text = "NONE: other numbers, 60 are there, 300 words were told.")
    static void lossRefusesOtherNumbersThoughAllElseFits() {
        CoverHouses x = Edges.newOn(4);
        int[][] others = {{-1, 0, 0, 0, 0, 0}, {12, 0, 0, 0, 0, 0}, {0, -1, 0, 0, 0, 0}, {0, 120, 0, 0, 0, 0},
            {0, 0, -1, 0, 0, 0}, {0, 0, 1000, 0, 0, 0}, {0, 0, 0, -1, 0, 0}, {0, 0, 0, 8, 0, 0}, {0, 0, 0, 0, -1, 0},
            {0, 0, 0, 0, 6, 0}, {0, 0, 0, 0, 0, -1}, {0, 0, 0, 0, 0, 100001}};
        for (int[] n : others) {
            Edges.due("other numbers", x.loss(n[0], n[1], n[2], n[3], n[4], n[5]), Edges.NONE);
        }
        Edges.due("the greatest of all", x.loss(11, 119, 999, 7, 5, 100000), 0);
        Edges.due("the least of all", x.loss(0, 0, 0, 0, 0, 0), 1);
    }

    @Says(in = "Promise 6", text = "60 are there")
    static void lossRefusesThe61stThoughThereAreWords() {
        CoverHouses x = new CoverHouses();
        for (int i = 0; i < 60; i++) {
            x.loss(0, 0, 0, 0, 0, 0);
        }
        Edges.due("61", x.loss(0, 0, 0, 0, 0, 0), Edges.NONE);
        Edges.due("words", x.count(3), 60);
        Edges.taken("a word", x.word(59, 1));
        Edges.due("61 still", x.loss(0, 0, 0, 0, 0, 0), Edges.NONE);
    }

    @Says(in = "Promise 6", text = "300 words were told.")
    static void lossRefusesTheWord301ThoughThereIsRoom() {
        CoverHouses x = new CoverHouses();
        x.loss(0, 0, 0, 0, 0, 0);
        for (int i = 0; i < 298; i++) {
            x.word(0, i);
        }
        Edges.due("the 300th word", x.loss(0, 0, 0, 0, 0, 0), 1);
        Edges.due("301", x.loss(0, 0, 0, 0, 0, 0), Edges.NONE);
        Edges.due("LOSSES", x.count(2), 2);
    }

    // ---- 7: word

    @Says(in = "Promise 7", text = "A later word of a LOSS: true;")
    static void wordTakesAmounts0To100000() {
        CoverHouses x = new CoverHouses();
        x.loss(3, 0, 0, 0, 0, 50);
        for (int amount : new int[] {0, 1, 99999, 100000, 50, 50}) {
            Edges.taken("amount " + amount, x.word(0, amount));
            Edges.due("it is known", x.look(0, 5), amount);
        }
        Edges.due("words", x.count(3), 7);
        Edges.due("LOSSES", x.count(2), 1);
    }

    @Says(in = "Promise 7", text = "false: none such, another amount, 300 words were told.")
    static void wordRefusesALossThatThereIsNot() {
        CoverHouses x = new CoverHouses();
        x.loss(3, 0, 0, 0, 0, 50);
        x.loss(3, 0, 0, 0, 0, 50);
        for (int loss : new int[] {-1, 2, 59, 60, 61, Integer.MIN_VALUE, Integer.MAX_VALUE}) {
            Edges.refused("LOSS " + loss, x.word(loss, 7));
        }
        Edges.taken("the last one", x.word(1, 7));
        Edges.due("words", x.count(3), 3);
    }

    @Says(in = "Promise 7", text = "another amount")
    static void wordRefusesAnotherAmount() {
        CoverHouses x = new CoverHouses();
        x.loss(3, 0, 0, 0, 0, 50);
        for (int amount : new int[] {-1, 100001, Integer.MIN_VALUE, Integer.MAX_VALUE}) {
            Edges.refused("amount " + amount, x.word(0, amount));
        }
        Edges.due("the amount", x.look(0, 5), 50);
        Edges.due("words", x.count(3), 1);
    }

    @Says(in = "Promise 7", text = "300 words were told.")
    static void wordRefusesTheWord301() {
        CoverHouses x = new CoverHouses();
        x.loss(0, 0, 0, 0, 0, 0);
        for (int i = 1; i <= 299; i++) {
            Edges.taken("word " + (i + 1), x.word(0, i));
        }
        Edges.refused("word 301", x.word(0, 7));
        x.days(5);
        Edges.refused("word 301, later", x.word(0, 7));
        Edges.due("the last one", x.look(0, 5), 299);
    }

    // ---- 8: split

    @Says(in = "Promise 8", text = "A SPLIT at a LOSS (yes) or none: true;")
    static void splitIsToldAndTakenBackAnyNumberOfTimes() {
        CoverHouses x = Edges.told("house a;");
        x.loss(0, 0, 0, 0, 0, 1);
        x.loss(0, 0, 0, 0, 0, 1);
        Edges.taken("none where there is none", x.split(1, false));
        Edges.due("one EVENT", x.events(), 1);
        for (int i = 0; i < 2; i++) {
            Edges.taken("a SPLIT", x.split(1, true));
            Edges.due("look", x.look(1, 6), 1);
            Edges.due("two EVENTS", x.events(), 2);
        }
        for (int i = 0; i < 2; i++) {
            Edges.taken("none", x.split(1, false));
            Edges.due("look", x.look(1, 6), 0);
            Edges.due("one EVENT", x.events(), 1);
        }
    }

    @Says(in = "Promise 8", text = "A SPLIT at a LOSS (yes) or none: true;")
    static void splitIsTakenForALossThatDoesNotCountOrIsNotTold() {
        CoverHouses x = Edges.newOn(3);
        x.loss(11, 0, 0, 0, 0, 0);
        x.view(1);
        Edges.taken("no HOUSE, no amount, not told by THE VIEW", x.split(0, true));
        Edges.due("look", x.look(0, 6), 1);
    }

    @Says(in = "Promise 8", text = "false: none such.")
    static void splitRefusesALossThatThereIsNot() {
        CoverHouses x = Edges.told("house a;");
        x.loss(0, 0, 0, 0, 0, 1);
        for (int loss : new int[] {-1, 1, 59, 60, Integer.MIN_VALUE, Integer.MAX_VALUE}) {
            Edges.refused("LOSS " + loss, x.split(loss, true));
            Edges.refused("none at LOSS " + loss, x.split(loss, false));
        }
        x.loss(0, 0, 0, 0, 0, 1);
        Edges.due("no SPLIT at what came later", x.look(1, 6), 0);
        Edges.due("one EVENT", x.events(), 1);
    }

    // ---- 9: leave

    @Says(in = "Promise 9", text = "A storm is left out (yes) or counts: true;")
    static void leaveTakesStorms0To5() {
        CoverHouses x = Edges.told("house a;");
        for (int storm = 0; storm <= 5; storm++) {
            x.loss(0, 0, 0, 0, storm, 1);
            Edges.taken("it counts already", x.leave(storm, false));
        }
        for (int storm = 0; storm <= 5; storm++) {
            Edges.taken("out", x.leave(storm, true));
            Edges.taken("out again", x.leave(storm, true));
            Edges.due("LOSSES that count", x.count(6), 5 - storm);
        }
        Edges.due("EVENTS", x.events(), 0);
        for (int storm = 0; storm <= 5; storm++) {
            Edges.taken("in", x.leave(storm, false));
            Edges.due("LOSSES that count", x.count(6), 1 + storm);
        }
    }

    @Says(in = "Promise 9", text = "false: none such.")
    static void leaveRefusesAStormThatThereIsNot() {
        CoverHouses x = Edges.told("house a;");
        for (int storm = 0; storm <= 5; storm++) {
            x.loss(0, 0, 0, 0, storm, 1);
        }
        for (int storm : new int[] {-1, 6, 7, 31, 32, 33, -31, -32, 64, Integer.MIN_VALUE, Integer.MAX_VALUE}) {
            Edges.refused("storm " + storm, x.leave(storm, true));
            Edges.due("LOSSES that count", x.count(6), 6);
        }
        x.leave(0, true);
        Edges.refused("storm 32", x.leave(32, false));
        Edges.refused("storm 6", x.leave(6, false));
        Edges.due("it is left out still", x.count(6), 5);
    }
}
