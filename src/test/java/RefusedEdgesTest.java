import java.io.IOException;
import java.util.function.Supplier;

/** A call that is refused, answers NONE or throws changes nothing that a later call shows. */
public final class RefusedEdgesTest {
    private static final int LEAST = Integer.MIN_VALUE;
    private static final int MOST = Integer.MAX_VALUE;

    private interface Call {
        void on(CoverHouses x);
    }

    private RefusedEdgesTest() {
    }

    public static void main(String[] args) throws IOException, ReflectiveOperationException {
        Edges.runAll(RefusedEdgesTest.class);
    }

    private static CoverHouses withAnEarlierView() {
        CoverHouses x = Portrait.sitter();
        x.view(380);
        return x;
    }

    /** Two objects told the same, but for the call, show the same, then and later. */
    private static void compare(String what, Supplier<CoverHouses> made, Call call) {
        CoverHouses without = made.get();
        CoverHouses with = made.get();
        call.on(with);
        Edges.need(what + " changes nothing", Portrait.of(with).equals(Portrait.of(without)));
        Edges.need(what + " changes nothing later", Portrait.later(with).equals(Portrait.later(without)));
    }

    private static void changesNothing(String what, Call call) {
        compare(what, Portrait::sitter, call);
        compare(what + " at an earlier VIEW", RefusedEdgesTest::withAnEarlierView, call);
    }

    private static boolean shows(Call change) {
        CoverHouses without = Portrait.sitter();
        CoverHouses with = Portrait.sitter();
        change.on(with);
        return !Portrait.of(with).equals(Portrait.of(without));
    }

    @Says(in = "Terms 1", text = "all that is told below is as known on it")
    static void thePortraitShowsEachCallThatIsTaken() {
        Edges.need("days", shows(x -> x.days(1)));
        Edges.need("view", shows(x -> x.view(749)));
        Edges.need("feed", shows(x -> x.feed(0L, 0L, 0x20L)));
        Edges.need("wording", shows(x -> x.wording()));
        Edges.need("loss", shows(x -> x.loss(0, 0, 0, 0, 0, 0)));
        Edges.need("word", shows(x -> x.word(0, 501)));
        Edges.need("split", shows(x -> x.split(3, true)));
        Edges.need("leave", shows(x -> x.leave(3, true)));
        Edges.need("commute", shows(x -> x.commute(0, 1)));
        Edges.need("purse", shows(x -> x.purse(1, 199)));
    }

    @Says(in = "Promise 2", text = "NONE for another n, beyond 9999.")
    static void daysThatAreRefused() {
        for (int n : new int[] {-1, 1001, LEAST, MOST}) {
            changesNothing("days(" + n + ")", x -> Edges.due("days", x.days(n), Edges.NONE));
        }
        Supplier<CoverHouses> atTheEnd = () -> {
            CoverHouses x = Portrait.sitter();
            Edges.pass(x, 9996 - x.count(4));
            return x;
        };
        compare("days(4) on DAY 9996", atTheEnd, x -> Edges.due("days", x.days(4), Edges.NONE));
    }

    @Says(in = "Promise 3", text = "false: a DAY behind NOW, below 0.")
    static void viewsThatAreRefused() {
        for (int day : new int[] {-1, 751, 9999, 10000, LEAST, MOST}) {
            changesNothing("view(" + day + ")", x -> Edges.refused("view", x.view(day)));
        }
    }

    @Says(in = "Promise 4", text = "others than 10 and 32 .. 126, and what is beyond 1,500, are left out:")
    static void signsThatAreLeftOut() {
        changesNothing("feed", x -> Edges.due("signs", x.feed(0x00010209ffff7f80L, -1L, 0x1f1e1d1c1b1a1918L), 16));
    }

    @Says(in = "Promise 5", text = "or its FAULT (the one ahead stays then).")
    static void aWordingWithAFault() {
        Supplier<CoverHouses> emptied = () -> {
            CoverHouses x = Portrait.sitter();
            x.wording();
            return x;
        };
        String fault = "house e;house f;event 0 hours 1 miles 1;share s of e:1000 to f;layer x of f:1 over 1 1 to e!";
        compare("wording", emptied, x -> Edges.due("FAULT", Signs.wording(x, fault), 1 + 16 * (fault.length() - 1)));
    }

    @Says(in = "Promise 6", text = "NONE: other numbers, 60 are there, 300 words were told.")
    static void lossesOfOtherNumbers() {
        int[][] others = {{-1, 0, 0, 0, 0, 5}, {12, 0, 0, 0, 0, 5}, {0, -1, 0, 0, 0, 5}, {0, 751 * 24, 0, 0, 0, 5},
            {0, 240000, 0, 0, 0, 5}, {0, 0, -1, 0, 0, 5}, {0, 0, 1000, 0, 0, 5}, {0, 0, 0, -1, 0, 5}, {0, 0, 0, 8, 0, 5},
            {0, 0, 0, 0, -1, 5}, {0, 0, 0, 0, 6, 5}, {0, 0, 0, 0, 0, -1}, {0, 0, 0, 0, 0, 100001}};
        for (int[] n : others) {
            changesNothing("loss", x -> Edges.due("LOSS", x.loss(n[0], n[1], n[2], n[3], n[4], n[5]), Edges.NONE));
        }
    }

    @Says(in = "Promise 6", text = "60 are there")
    static void aLossThatIsOneTooMany() {
        Supplier<CoverHouses> full = () -> {
            CoverHouses x = Portrait.sitter();
            for (int i = 5; i < 60; i++) {
                x.loss(i % 4, i, i, 0, 5, i);
            }
            return x;
        };
        compare("the 61st LOSS", full, x -> Edges.due("LOSS", x.loss(0, 0, 0, 0, 0, 5), Edges.NONE));
        compare("a word of it", full, x -> Edges.refused("word", x.word(60, 5)));
        compare("a SPLIT at it", full, x -> Edges.refused("SPLIT", x.split(60, true)));
    }

    /** With all 300 words told; few calls are left, so that it is shown once alone. */
    private static String withAllWords(Call call) {
        CoverHouses x = Edges.told("house a;house b;share s of a:500 to b;");
        x.loss(0, 0, 0, 0, 0, 70);
        x.loss(1, 1, 0, 0, 0, 30);
        for (int i = 2; i < 300; i++) {
            x.word(i % 2, i);
        }
        call.on(x);
        return Portrait.of(x);
    }

    @Says(in = "Promise 7", text = "300 words were told.")
    static void wordsAndLossesThatAreOneTooMany() {
        String without = withAllWords(x -> x.count(0));
        Edges.need("a word more changes nothing",
                without.equals(withAllWords(x -> Edges.refused("word", x.word(0, 5)))));
        Edges.need("a LOSS more changes nothing",
                without.equals(withAllWords(x -> Edges.due("LOSS", x.loss(0, 0, 0, 0, 0, 5), Edges.NONE))));
    }

    @Says(in = "Promise 7", text = "false: none such, another amount")
    static void wordsThatAreRefused() {
        for (int loss : new int[] {-1, 5, 59, 60, LEAST, MOST}) {
            changesNothing("word of " + loss, x -> Edges.refused("word", x.word(loss, 5)));
        }
        for (int amount : new int[] {-1, 100001, LEAST, MOST}) {
            changesNothing("amount " + amount, x -> Edges.refused("word", x.word(0, amount)));
        }
    }

    @Says(in = "Promise 8", text = "false: none such.")
    static void splitsThatAreRefused() {
        for (int loss : new int[] {-1, 5, 6, 59, 60, LEAST, MOST}) {
            changesNothing("SPLIT at " + loss, x -> Edges.refused("split", x.split(loss, true)));
            changesNothing("none at " + loss, x -> Edges.refused("split", x.split(loss, false)));
        }
    }

    @Says(in = "Promise 9", text = "false: none such.")
    static void stormsThatAreRefused() {
        for (int storm : new int[] {-1, 6, 32, 36, LEAST, MOST}) {
            changesNothing("storm " + storm + " out", x -> Edges.refused("leave", x.leave(storm, true)));
            changesNothing("storm " + storm + " in", x -> Edges.refused("leave", x.leave(storm, false)));
        }
    }

    @Says(in = "Promise 16", text = "false: no such treaty, another sum, it is.")
    static void whatIsNotCommuted() {
        for (int treaty : new int[] {-1, 4, 23, 24, LEAST, MOST}) {
            changesNothing("treaty " + treaty, x -> Edges.refused("commute", x.commute(treaty, 5)));
        }
        for (int sum : new int[] {-1, 1000000, LEAST, MOST}) {
            changesNothing("sum " + sum, x -> Edges.refused("commute", x.commute(0, sum)));
            changesNothing("it is, sum " + sum, x -> Edges.refused("commute", x.commute(2, sum)));
        }
        changesNothing("it is", x -> Edges.refused("commute", x.commute(2, 41)));
    }

    @Says(in = "Promise 21", text = "false: none such, another purse.")
    static void pursesThatAreRefused() {
        for (int house : new int[] {-1, 12, LEAST, MOST}) {
            changesNothing("HOUSE " + house, x -> Edges.refused("purse", x.purse(house, 5)));
        }
        for (int n : new int[] {-1, 100000000, LEAST, MOST}) {
            changesNothing("purse " + n, x -> Edges.refused("purse", x.purse(1, n)));
        }
    }

    @Says(in = "Promise 17", text = "NoSuchElementException: no such HOUSES, the same.")
    static void owedThatThrows() {
        for (int other : new int[] {-1, 4, 12, LEAST, MOST}) {
            changesNothing("owed of " + other, x -> Edges.throwsNoSuchElement("owed", () -> x.owed(other, 0)));
            changesNothing("owed to " + other, x -> Edges.throwsNoSuchElement("owed", () -> x.owed(0, other)));
        }
        changesNothing("owed of the same", x -> Edges.throwsNoSuchElement("owed", () -> x.owed(1, 1)));
    }

    @Says(in = "Promise 18", text = "NoSuchElementException: no such HOUSE.")
    static void bearsThatThrows() {
        for (int other : new int[] {-1, 4, 12, LEAST, MOST}) {
            changesNothing("bears of " + other, x -> Edges.throwsNoSuchElement("bears", () -> x.bears(other)));
        }
    }

    @Says(in = "Promise 22", text = "NoSuchElementException: none such.")
    static void clearsThatThrows() {
        for (int other : new int[] {-1, 5, 12, LEAST, MOST}) {
            changesNothing("clears of " + other, x -> Edges.throwsNoSuchElement("clears", () -> x.clears(other, 0)));
            changesNothing("clears what " + other, x -> Edges.throwsNoSuchElement("clears", () -> x.clears(0, other)));
        }
    }

    @Says(in = "Promise 26", text = "NoSuchElementException: none such.")
    static void lookThatThrows() {
        for (int other : new int[] {-1, 7, 60, LEAST, MOST}) {
            changesNothing("look at " + other, x -> Edges.throwsNoSuchElement("look", () -> x.look(other, 0)));
            changesNothing("look what " + other, x -> Edges.throwsNoSuchElement("look", () -> x.look(0, other)));
        }
    }

    @Says(in = "Promise 19", text = "NONE: none, no such HOUSE.")
    static void questionsThatAreRefused() {
        for (int other : new int[] {-1, 60, LEAST, MOST}) {
            changesNothing("questions with " + other, x -> {
                Edges.due("event", x.event(other, 0), Edges.NONE);
                Edges.due("event what", x.event(0, other), Edges.NONE);
                Edges.due("eventOf", x.eventOf(other), Edges.NONE);
                Edges.due("gross", x.gross(other, 0, 0), Edges.NONE);
                Edges.due("treaty", x.treaty(0, other, 0), Edges.NONE);
                Edges.due("left", x.left(other), Edges.NONE);
                Edges.due("wants", x.wants(other), Edges.NONE);
                Edges.due("worst", x.worst(other, 1), Edges.NONE);
                Edges.due("worst k", x.worst(0, other), Edges.NONE);
                Edges.due("known", x.known(other, 0, 0), Edges.NONE);
                Edges.due("factor", x.factor(other, 0), Edges.NONE);
                Edges.due("foretold", x.foretold(0, other), Edges.NONE);
                Edges.due("count", x.count(other), Edges.NONE);
            });
        }
    }

    @Says(in = "Promise 19", text = "THE SPLIT a HOUSE wants: the LOSS;")
    static void questionsThatAreAnsweredChangeNothingEither() {
        changesNothing("wants and worst", x -> {
            for (int house = 0; house < 4; house++) {
                x.wants(house);
                x.worst(house, 6);
            }
        });
        changesNothing("all that is shown", x -> Portrait.of(x));
    }
}
