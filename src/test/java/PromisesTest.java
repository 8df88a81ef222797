import java.util.NoSuchElementException;

/** For each promise: ordinary inputs, the edges that the document names, and wrong inputs. */
public final class PromisesTest {
    private static final String THREE = "house a; house b; house c; ";

    private static int wrong = 0;
    private static int checks = 0;
    private static int promise = 0;

    private PromisesTest() {
    }

    public static void main(String[] args) {
        newObject();
        days();
        view();
        feed();
        wordingThatStands();
        wordingFaults();
        wordingDepth();
        wordingLimits();
        loss();
        word();
        split();
        leave();
        events();
        event();
        endless();
        eventOf();
        gross();
        treaty();
        conditions();
        left();
        commute();
        owed();
        bears();
        wants();
        worst();
        purse();
        clears();
        slowClearing();
        known();
        factor();
        foretold();
        look();
        count();
        System.out.println("PromisesTest: " + checks + " checks, " + wrong + " wrong");
        if (wrong > 0) {
            System.exit(1);
        }
    }

    private static void due(String what, long got, long want) {
        checks++;
        if (got != want) {
            wrong++;
            System.out.println("promise " + promise + ": " + what + " answered " + got + ", due is " + want);
        }
    }

    private static void due(String what, boolean got, boolean want) {
        due(what, got ? 1 : 0, want ? 1 : 0);
    }

    private static CoverHouses told(String wording) {
        CoverHouses x = new CoverHouses();
        due(wording, Signs.wording(x, wording), 0);
        return x;
    }

    private static void fault(String text, int kind, int place) {
        due(text, Signs.wording(new CoverHouses(), text), kind + 16 * place);
    }

    /** The place of the fault is that of the sign |, which is not fed. */
    private static void faultAtBar(int kind, String text) {
        int place = text.indexOf('|');
        fault(text.substring(0, place) + text.substring(place + 1), kind, place);
    }

    private static void newObject() {
        promise = 1;
        CoverHouses x = new CoverHouses();
        for (int what = 0; what <= 9; what++) {
            due("count of a new object " + what, x.count(what), 0);
        }
        due("events", x.events(), 0);
        due("NONE", CoverHouses.NONE, -1);
        due("feed", x.feed(0, 0, 0), 0);
    }

    private static void days() {
        promise = 2;
        CoverHouses x = new CoverHouses();
        due("0", x.days(0), 0);
        due("1", x.days(1), 1);
        due("-1", x.days(-1), -1);
        due("1001", x.days(1001), -1);
        due("stays", x.days(0), 1);
        for (int i = 1; i <= 9; i++) {
            due("1000", x.days(1000), 1 + 1000 * i);
        }
        due("beyond 9999", x.days(999), -1);
        due("to 9999", x.days(998), 9999);
        due("beyond 9999 by one", x.days(1), -1);
        due("none more", x.days(0), 9999);
        due("a great number", x.days(Integer.MAX_VALUE), -1);
    }

    private static void view() {
        promise = 3;
        CoverHouses x = told(THREE);
        x.loss(0, 0, 0, 0, 0, 10);
        x.days(5);
        x.word(0, 20);
        x.loss(1, 100, 0, 1, 0, 7);
        due("events now", x.events(), 2);
        due("below 0", x.view(-1), false);
        due("behind NOW", x.view(6), false);
        due("4", x.view(4), true);
        due("known on 4", x.gross(0, 0, 0), 10);
        due("events on 4", x.events(), 1);
        due("not told then", x.look(1, 5), -1);
        due("counted then", x.count(6), 1);
        x.days(1);
        due("it stays", x.count(5), 4);
        due("5", x.view(5), true);
        due("known on 5", x.gross(0, 0, 0), 20);
        due("it stays at 5", x.days(1) + x.count(5), 12);
        due("NOW", x.view(7), true);
        x.days(1);
        due("it goes on with NOW", x.count(5), 8);
        due("0", x.view(0), true);
        due("known on 0", x.look(0, 5), 10);
    }

    private static void feed() {
        promise = 4;
        CoverHouses x = new CoverHouses();
        due("a row with others", x.feed(0x00090a0b1f207e7fL, 0x80ff00000000000aL, 0L), 4);
        due("the highest first", x.wording(), 1 + 16 * 2);
        due("it is taken", x.count(9), 0);
        // "house a;" in one number; the order of a, b, c
        due("in order", x.feed(0x686f757365206100L, 0x3b686f7573652000L, 0x623b000000000000L), 16);
        due("read in order", x.wording(), 0);
        due("houses", x.count(0), 2);
        for (int i = 1; i <= 62; i++) {
            due("24 more", x.feed(0x2020202020202020L, 0x2020202020202020L, 0x2020202020202020L), 24 * i);
        }
        due("up to 1500", x.feed(0x2020202020202020L, 0x3b3b3b3b3b3b3b3bL, 0x3b3b3b3b3b3b3b3bL), 1500);
        due("no more", x.feed(0x3b3b3b3b3b3b3b3bL, 0L, 0L), 1500);
        due("the first 1500 count", x.wording(), 1 + 16 * 1496);
        due("taken with a fault, too", x.feed(0L, 0L, 0x3bL), 1);
    }

    private static void wordingThatStands() {
        promise = 5;
        CoverHouses x = told("");
        x = told(" \n ");
        x = told("house a;house b;event 0hours 1miles 0;event 7 hours 999 miles 999;"
                + "share s of a own:1to b when 1;layer l of b:999999over 999999 1000to a again 9at 999999when(1);");
        due("houses", x.count(0), 2);
        due("treaties", x.count(1), 2);
        due("left", x.left(1), 9999990);
        due("a fault keeps the one ahead", Signs.wording(x, "house z"), 1 + 16 * 7);
        due("houses still", x.count(0), 2);
        due("an empty tape is a wording", x.wording(), 0);
        due("no houses", x.count(0), 0);
        due("no treaties", x.count(1), 0);
        x = told(THREE + "share s of a : 500 to b and 500 to c ;");
        x.commute(0, 10);
        due("commuted", x.count(7), 1);
        Signs.wording(x, THREE + "share s of a : 500 to b ;");
        due("commuted no more", x.count(7), 0);
        due("may be commuted again", x.commute(0, 5), true);
        Signs.wording(x, "house a");
        due("commuted still behind a fault", x.count(7), 1);
        x = told("event 0 hours 1 miles 1;event 7 hours 1 miles 1;");
        due("causes are told anew in another wording",
                Signs.wording(x, "event 0 hours 2 miles 2;event 7 hours 1 miles 1;"), 0);
        x = told(THREE + "share s of a : 500 to b ;");
        x.loss(0, 0, 0, 0, 0, 100);
        due("half", x.gross(0, 1, 1), 50);
        Signs.wording(x, THREE + "share s of a : 300 to b ;");
        due("in force for all there is", x.gross(0, 1, 1), 30);
        x = told("house off;house an;house housea;house abcdefgh;");
        due("names that look like others", x.count(0), 4);
    }

    private static void wordingFaults() {
        promise = 5;
        faultAtBar(1, "|a");
        faultAtBar(1, "|;");
        faultAtBar(1, "  |7");
        faultAtBar(1, "house a ;|hours");
        faultAtBar(1, "house |");
        faultAtBar(1, "house  |");
        faultAtBar(1, "house |house;");
        faultAtBar(1, "house |or;");
        faultAtBar(1, "house |12;");
        faultAtBar(1, "house a|1;");
        faultAtBar(1, "house |abcdefghi;");
        faultAtBar(1, "house |A;");
        faultAtBar(1, "house a |house b;");
        faultAtBar(3, "house a;house |a;");
        faultAtBar(3, "house a;share |a of a:1 to b;");
        faultAtBar(3, THREE + "share s of a:1 to b;house |s;");
        faultAtBar(3, THREE + "share s of a:1 to b;layer |s of a:1 over 1 1 to b;");
        faultAtBar(4, "event |8 hours 1 miles 1;");
        faultAtBar(1, "event |1234567 hours 1 miles 1;");
        faultAtBar(4, "event 1 hours |0 miles 1;");
        faultAtBar(4, "event 1 hours |1000 miles 1;");
        faultAtBar(4, "event 1 hours 1 miles |1000;");
        faultAtBar(1, "event 1 |miles 1 hours 1;");
        faultAtBar(1, "event 1 hours 1 |;");
        faultAtBar(6, "event 1 hours 1 miles 1;event |1 hours 1 miles 1;");
        faultAtBar(1, "event |one hours 1 miles 1;");
        faultAtBar(1, THREE + "share s |a:1 to b;");
        faultAtBar(2, THREE + "share s of |d:1 to b;");
        faultAtBar(2, THREE + "share s of |s:1 to b;");
        faultAtBar(1, THREE + "share s of |own:1 to b;");
        faultAtBar(1, THREE + "share s of a own |own:1 to b;");
        faultAtBar(1, THREE + "share s of a |1 to b;");
        faultAtBar(4, THREE + "share s of a:|0 to b;");
        faultAtBar(4, THREE + "share s of a:|1001 to b;");
        faultAtBar(4, THREE + "share s of a:500 to b and |501 to c;");
        faultAtBar(4, THREE + "share s of a:1000 to b and |1 to z;");
        faultAtBar(2, THREE + "share s of a:500 to |z;");
        faultAtBar(6, THREE + "share s of a:500 to |a;");
        faultAtBar(6, THREE + "share s of a:500 to b and 1 to |b;");
        faultAtBar(2, THREE + "share s of a:1 to b;share t of a:1 to |s;");
        faultAtBar(1, THREE + "share s of a:1 |b;");
        faultAtBar(1, THREE + "share s of a:1 to b |again 1 at 1;");
        faultAtBar(1, THREE + "share s of a:1 to b|");
        faultAtBar(1, THREE + "share s of a:|when 1;");
        faultAtBar(4, THREE + "layer l of a:|0 over 1 1 to b;");
        faultAtBar(1, THREE + "layer l of a:1 |1 to b;");
        faultAtBar(1, THREE + "layer l of a:1 over 1 |;");
        faultAtBar(4, THREE + "layer l of a:1 over 0 1 to b again |10 at 1;");
        faultAtBar(1, THREE + "layer l of a:1 over 0 1 to b again 9 |;");
        faultAtBar(1, THREE + "layer l of a:1 over 0 1 to b when 1 |again 9 at 1;");
        faultAtBar(1, THREE + "layer l of a:1 over 0 1 to b again 9 at |1234567;");
        faultAtBar(1, THREE + "share s of a:1 to b when |;");
        faultAtBar(1, THREE + "share s of a:1 to b when |b;");
        faultAtBar(1, THREE + "share s of a:1 to b when 1 |2;");
        faultAtBar(1, THREE + "share s of a:1 to b when 1<2|<3;");
        faultAtBar(1, THREE + "share s of a:1 to b when 1<2|=3;");
        faultAtBar(1, THREE + "share s of a:1 to b when 1+|<2;");
        faultAtBar(1, THREE + "share s of a:1 to b when |-1;");
        faultAtBar(1, THREE + "share s of a:1 to b when (1|;");
        faultAtBar(1, THREE + "share s of a:1 to b when 1|);");
        faultAtBar(1, THREE + "share s of a:1 to b when (|);");
        faultAtBar(1, THREE + "share s of a:1 to b when 1 and |and 1;");
        faultAtBar(1, THREE + "share s of a:1 to b when 1 |!;");
    }

    private static void wordingDepth() {
        promise = 5;
        String when = THREE + "share s of a:1 to b when ";
        told(when + "not not not 1;");
        told(when + "(((1)))<(((2)));");
        told(when + "(not(1))+(not(hit));");
        told(when + "not(not hit) and (not(1)) or ((not 2));");
        told(when + "not not not 1 + not not not 1 < not not not hit;");
        String[] around = {"not not not not ", "((((", "not(not(", "(not(not ", "not not((", "((not not ",
            "(((1)))+((((", "((1<(2+not ", "((1 and(0 or(", "not not(1=1)and(((("};
        String[] values = {"1", "0", "999999", "cause", "day", "losses", "direct", "hit", "not 1", "not", "(1)", "("};
        String[] others = {"", ")", ";", "<", "+", "-", "and", "or", "own", "a", "s", "z", "1234567", "!", "hits"};
        for (String open : around) {
            for (String value : values) {
                faultAtBar(5, when + open + "|" + value);
            }
            for (String other : others) {
                faultAtBar(1, when + open + "|" + other);
            }
        }
        faultAtBar(5, when + "not not not not |not 1;");
        faultAtBar(5, when + "((((|hit))));");
        faultAtBar(5, when + "(((1+(|2))));");
        faultAtBar(5, when + "1<2 or 3-not not not not |hit;");
        faultAtBar(1, when + "(((1)|;");
    }

    private static void wordingLimits() {
        promise = 5;
        StringBuilder text = new StringBuilder();
        for (int i = 0; i < 12; i++) {
            text.append("house h").append((char) ('a' + i)).append(';');
        }
        due("12 houses", told(text.toString()).count(0), 12);
        faultAtBar(5, text + "|house x;");
        faultAtBar(5, text + "|house ha;");
        for (int i = 0; i < 24; i++) {
            text.append(i % 2 == 0 ? "share q" : "layer q").append((char) ('a' + i))
                    .append(i % 2 == 0 ? " of ha:1to hb;" : " of hb:1over 1 1to ha;");
        }
        due("24 treaties", told(text.toString()).count(1), 24);
        faultAtBar(5, text + "|share qz of ha:1 to hb;");
        faultAtBar(5, text + "|layer ;");
        StringBuilder parts = new StringBuilder(text.substring(0, 12 * 9) + "share s of hf:1to ha");
        for (int i = 1; i < 12; i++) {
            if (i != 5) {
                parts.append(" and 1 to h").append((char) ('a' + i));
            }
        }
        due("11 parts", told(parts + ";").count(1), 1);
        faultAtBar(6, parts + " and 1 to |ha;");
        faultAtBar(2, parts + " and 1 to |x;");
    }

    private static void loss() {
        promise = 6;
        CoverHouses x = new CoverHouses();
        x.days(2);
        due("first", x.loss(0, 0, 0, 0, 0, 0), 0);
        due("greatest", x.loss(11, 71, 999, 7, 5, 100000), 1);
        due("a day behind NOW", x.loss(11, 72, 999, 7, 5, 100000), -1);
        due("hour", x.loss(0, -1, 0, 0, 0, 0), -1);
        due("house 12", x.loss(12, 0, 0, 0, 0, 0), -1);
        due("house -1", x.loss(-1, 0, 0, 0, 0, 0), -1);
        due("place 1000", x.loss(0, 0, 1000, 0, 0, 0), -1);
        due("place -1", x.loss(0, 0, -1, 0, 0, 0), -1);
        due("cause 8", x.loss(0, 0, 0, 8, 0, 0), -1);
        due("cause -1", x.loss(0, 0, 0, -1, 0, 0), -1);
        due("storm 6", x.loss(0, 0, 0, 0, 6, 0), -1);
        due("storm -1", x.loss(0, 0, 0, 0, -1, 0), -1);
        due("amount 100001", x.loss(0, 0, 0, 0, 0, 100001), -1);
        due("amount -1", x.loss(0, 0, 0, 0, 0, -1), -1);
        due("they are no losses", x.count(2), 2);
        for (int i = 2; i < 60; i++) {
            due("up to 60", x.loss(1, 5, 0, 0, 0, i), i);
        }
        due("60 are there", x.loss(1, 5, 0, 0, 0, 1), -1);
        CoverHouses y = new CoverHouses();
        due("a loss", y.loss(0, 0, 0, 0, 0, 1), 0);
        for (int i = 1; i < 300; i++) {
            due("words", y.word(0, i), true);
        }
        due("300 words were told", y.loss(0, 0, 0, 0, 0, 1), -1);
        CoverHouses z = new CoverHouses();
        for (int i = 0; i < 9; i++) {
            z.days(1000);
        }
        z.days(999);
        due("the last hour", z.loss(0, 239999, 0, 0, 0, 1), 0);
        due("beyond the last hour", z.loss(0, 240000, 0, 0, 0, 1), -1);
    }

    private static void word() {
        promise = 7;
        CoverHouses x = told(THREE);
        due("none such", x.word(0, 1), false);
        x.loss(0, 0, 0, 0, 0, 5);
        due("-1", x.word(-1, 1), false);
        due("1", x.word(1, 1), false);
        due("amount", x.word(0, 100001), false);
        due("amount below", x.word(0, -1), false);
        due("no words", x.count(3), 1);
        x.days(3);
        due("a word", x.word(0, 100000), true);
        due("another on the day", x.word(0, 9), true);
        due("the latest", x.look(0, 5), 9);
        x.view(2);
        due("ahead of it", x.look(0, 5), 5);
        due("told at an earlier view", x.word(0, 0), true);
        due("that view knows nothing of it", x.look(0, 5), 5);
        x.view(3);
        due("0 doesn't count", x.events(), 0);
        for (int i = 4; i < 300; i++) {
            due("to 300", x.word(0, i), true);
        }
        due("300 were told", x.word(0, 1), false);
        due("the last one", x.look(0, 5), 299);
        due("300", x.count(3), 300);
    }

    private static void split() {
        promise = 8;
        CoverHouses x = told(THREE);
        due("none such", x.split(0, true), false);
        x.loss(0, 0, 0, 0, 0, 5);
        x.loss(0, 1, 0, 0, 0, 5);
        x.loss(0, 2, 0, 0, 0, 5);
        due("-1", x.split(-1, false), false);
        due("3", x.split(3, false), false);
        due("one event", x.events(), 1);
        due("split", x.split(1, true), true);
        due("two", x.events(), 2);
        due("the next joins the later one", x.eventOf(2), 1);
        due("again", x.split(1, true), true);
        due("none", x.split(1, false), true);
        due("one event again", x.events(), 1);
    }

    private static void leave() {
        promise = 9;
        CoverHouses x = told(THREE);
        x.loss(0, 0, 0, 0, 0, 5);
        x.loss(0, 0, 0, 0, 5, 7);
        due("-1", x.leave(-1, true), false);
        due("6", x.leave(6, true), false);
        due("all", x.event(0, 4), 12);
        due("5 left out", x.leave(5, true), true);
        due("less", x.event(0, 4), 5);
        due("twice", x.leave(5, true), true);
        due("0 left out", x.leave(0, true), true);
        due("none", x.events(), 0);
        due("5 counts", x.leave(5, false), true);
        due("one", x.event(0, 4), 7);
    }

    private static void events() {
        promise = 10;
        CoverHouses x = told(THREE + "event 0 hours 10 miles 5; event 1 hours 1 miles 0;");
        x.days(50);
        x.loss(0, 100, 50, 0, 0, 1);
        x.loss(0, 109, 55, 0, 0, 1);
        due("within", x.events(), 1);
        x.loss(0, 109, 45, 0, 0, 1);
        due("miles the other way", x.events(), 1);
        x.loss(0, 109, 56, 0, 0, 1);
        due("too far", x.events(), 2);
        x.loss(0, 110, 52, 0, 0, 1);
        due("too late for the first, not for the second", x.eventOf(4), 1);
        due("two", x.events(), 2);
        x.loss(0, 120, 50, 0, 0, 1);
        due("too late for both", x.events(), 3);
        x.loss(0, 100, 50, 1, 0, 1);
        due("of another cause", x.events(), 4);
        x.loss(0, 100, 50, 1, 0, 1);
        due("of the same hour", x.events(), 4);
        x.loss(0, 101, 50, 1, 0, 1);
        due("less than one hour", x.events(), 5);
        x.loss(3, 300, 50, 1, 0, 1);
        due("a house that is not told", x.events(), 5);
        x.loss(2, 300, 50, 1, 0, 0);
        due("an amount of 0", x.events(), 5);
        CoverHouses y = told(THREE);
        y.days(50);
        y.loss(0, 0, 0, 3, 0, 1);
        y.loss(0, 167, 999, 3, 0, 1);
        due("168 hours, 999 miles", y.events(), 1);
        y.loss(0, 168, 0, 3, 0, 1);
        due("behind 168 hours", y.events(), 2);
    }

    private static void event() {
        promise = 11;
        CoverHouses x = told(THREE + "share s of a:500 to b;share t of b:500 to c;");
        x.days(10);
        x.loss(0, 200, 0, 0, 0, 100);
        x.loss(1, 200, 0, 0, 0, 10);
        x.loss(0, 20, 0, 0, 0, 30);
        due("the first by hour", x.event(0, 0), 2);
        due("one loss", x.event(0, 1), 1);
        due("the first by number", x.event(1, 0), 0);
        due("two losses", x.event(1, 1), 2);
        due("rounds", x.event(1, 2), 3);
        due("not endless", x.event(1, 3), 0);
        due("direct", x.event(1, 4), 110);
        due("what 5", x.event(1, 5), -1);
        due("what -1", x.event(1, -1), -1);
        due("event 2", x.event(2, 0), -1);
        due("event -1", x.event(-1, 0), -1);
        CoverHouses y = told(THREE);
        y.loss(0, 0, 0, 0, 0, 1);
        due("a round of nothing", y.event(0, 2), 1);
        y.loss(0, 0, 0, 0, 0, 1);
        due("two in it", y.event(0, 1), 2);
    }

    private static void endless() {
        promise = 11;
        CoverHouses x = told(THREE + "share s of a:1000 to b;share t of b:1000 to a;");
        x.loss(0, 0, 0, 0, 0, 1);
        due("2000 rounds", x.event(0, 2), 2000);
        due("endless", x.event(0, 3), 1);
        for (int i = 0; i < 59; i++) {
            x.loss(0, 0, 0, 0, 0, 100000);
        }
        // 5900001 more at a by every second round: above 20000000 with the sixth.
        due("above 20000000", x.event(0, 2), 6);
        due("endless by that", x.event(0, 3), 1);
        due("gross is direct", x.gross(0, 0, 1), 5900001);
        due("all, too", x.gross(0, 0, 2), 5900001);
        due("nobody pays", x.treaty(0, 0, 2), 0);
        due("no base", x.treaty(0, 0, 0), 0);
        due("nothing owed", owed(x, 1, 0), 0);
        CoverHouses y = told(THREE + "share s of a:1000 to b;layer t of b:5 over 0 1000 to a;");
        y.loss(0, 0, 0, 0, 0, 1);
        due("ends when the layer is full", y.event(0, 3), 0);
        due("gross", y.gross(0, 0, 1), 6);
        // b has 1 with round 1, a has 2 with round 2, .. b has 6 with round 11.
        due("rounds", y.event(0, 2), 12);
        due("20000000", grossOfLayers(14).event(0, 3), 0);
        due("all of it", grossOfLayers(14).gross(0, 0, 1), 20000000);
        due("one above", grossOfLayers(15).event(0, 3), 1);
    }

    /** a passes 6000000 to b, which passes 14 times 999999 and the last one's limit back. */
    private static CoverHouses grossOfLayers(int last) {
        StringBuilder text = new StringBuilder(THREE + "share s of a:1000to b;layer l of b:" + last + " over 0 1000to a;");
        for (int i = 0; i < 14; i++) {
            text.append("layer q").append((char) ('a' + i)).append(" of b:999999over 0 1000to a;");
        }
        CoverHouses x = told(text.toString());
        for (int i = 0; i < 60; i++) {
            x.loss(0, 0, 0, 0, 0, 100000);
        }
        return x;
    }

    private static void eventOf() {
        promise = 12;
        CoverHouses x = told(THREE);
        x.days(30);
        due("none such", x.eventOf(0), -1);
        x.loss(0, 500, 0, 0, 0, 1);
        x.loss(0, 0, 0, 0, 0, 1);
        x.loss(0, 1, 0, 0, 1, 0);
        x.loss(5, 1, 0, 0, 1, 9);
        due("later", x.eventOf(0), 1);
        due("earlier", x.eventOf(1), 0);
        due("doesn't count", x.eventOf(2), -1);
        due("of no house", x.eventOf(3), -1);
        due("none", x.eventOf(4), -1);
        due("below", x.eventOf(-1), -1);
        x.leave(0, true);
        due("left out", x.eventOf(0), -1);
    }

    private static void gross() {
        promise = 13;
        CoverHouses x = told(THREE + "share s of a own:333 to b and 333 to c;layer l of a:50 over 10 1000 to b;");
        x.loss(0, 0, 0, 0, 0, 100);
        x.loss(1, 0, 0, 0, 0, 4);
        due("direct a", x.gross(0, 0, 0), 100);
        due("gross a", x.gross(0, 0, 1), 100);
        // 33 and 33 go off; of 34 the layer takes 24.
        due("all a", x.gross(0, 0, 2), 10);
        due("gross b", x.gross(0, 1, 1), 4 + 33 + 24);
        due("all b", x.gross(0, 1, 2), 61);
        due("gross c", x.gross(0, 2, 1), 33);
        due("direct c", x.gross(0, 2, 0), 0);
        due("what 3", x.gross(0, 0, 3), -1);
        due("what -1", x.gross(0, 0, -1), -1);
        due("house 3", x.gross(0, 3, 0), -1);
        due("house -1", x.gross(0, -1, 0), -1);
        due("event 1", x.gross(1, 0, 0), -1);
        due("event -1", x.gross(-1, 0, 0), -1);
        // OWN is not above ALL: a share of ALL leaves 40, of which own takes 40 and not 100.
        CoverHouses y = told(THREE + "share s of a:600 to b;share t of a own:1000 to c;");
        y.loss(0, 0, 0, 0, 0, 100);
        due("own behind all", y.treaty(0, 1, 0), 40);
        due("nothing is left", y.gross(0, 0, 2), 0);
        y = told(THREE + "share s of a own:300 to b;share t of a own:500 to c;");
        y.loss(0, 0, 0, 0, 0, 100);
        due("own behind own", y.treaty(0, 1, 0), 70);
        due("all behind both", y.gross(0, 0, 2), 35);
        // What comes from others is in ALL, not in OWN.
        CoverHouses z = told(THREE + "share r of b:500 to a;share s of a own:500 to c;share t of a:500 to c;");
        z.loss(0, 0, 0, 0, 0, 100);
        z.loss(1, 0, 0, 0, 0, 200);
        due("gross with parts", z.gross(0, 0, 1), 200);
        due("own base", z.treaty(0, 1, 0), 100);
        due("all base", z.treaty(0, 2, 0), 150);
    }

    private static void treaty() {
        promise = 14;
        CoverHouses x = told(THREE + "layer l of a:100 over 50 600 to b and 333 to c again 1 at 77;"
                + "share s of b:999 to c when day < 5;");
        x.days(40);
        x.loss(0, 0, 0, 0, 0, 120);
        x.loss(0, 240, 0, 0, 0, 500);
        x.loss(0, 480, 0, 0, 0, 500);
        due("base", x.treaty(0, 0, 0), 120);
        due("use", x.treaty(0, 0, 1), 70);
        due("paid", x.treaty(0, 0, 2), 42 + 23);
        due("reinstated", x.treaty(0, 0, 3), 70);
        due("premium", x.treaty(0, 0, 4), 53);
        due("share base", x.treaty(0, 1, 0), 42);
        due("share pays", x.treaty(0, 1, 1), 41);
        due("share pays, too", x.treaty(0, 1, 2), 41);
        due("share reinstates nothing", x.treaty(0, 1, 3), 0);
        due("share has no premium", x.treaty(0, 1, 4), 0);
        due("its limit", x.treaty(1, 0, 1), 100);
        due("reinstated to its end", x.treaty(1, 0, 3), 30);
        due("premium cut", x.treaty(1, 0, 4), 23);
        due("pays nothing", x.treaty(1, 1, 0), 0);
        due("what is left of it", x.treaty(2, 0, 1), 30);
        due("nothing to reinstate", x.treaty(2, 0, 3), 0);
        due("what 5", x.treaty(0, 0, 5), -1);
        due("what -1", x.treaty(0, 0, -1), -1);
        due("treaty 2", x.treaty(0, 2, 0), -1);
        due("treaty -1", x.treaty(0, -1, 0), -1);
        due("event 3", x.treaty(3, 0, 0), -1);
        due("event -1", x.treaty(-1, 0, 0), -1);
        x.commute(0, 0);
        due("commuted: base", x.treaty(0, 0, 0), 0);
        due("commuted: paid", x.treaty(0, 0, 2), 0);
        CoverHouses y = told(THREE + "layer l of a:100 over 50 1000 to b;");
        y.loss(0, 0, 0, 0, 0, 50);
        due("a base that is not above", y.treaty(0, 0, 0), 50);
        due("no use", y.treaty(0, 0, 1), 0);
        y.loss(0, 0, 0, 0, 0, 1);
        due("one above", y.treaty(0, 0, 1), 1);
    }

    private static void pays(String condition, boolean yes) {
        CoverHouses x = told(THREE + "share s of a:1000 to b when " + condition + ";");
        x.days(9);
        x.loss(0, 49, 0, 6, 0, 30);
        x.loss(0, 50, 0, 6, 0, 20);
        x.loss(2, 51, 0, 6, 0, 5);
        due(condition, x.gross(0, 1, 1), yes ? 50 : 0);
    }

    private static void conditions() {
        promise = 14;
        pays("cause = 6", true);
        pays("cause < 6", false);
        pays("day = 2", true);
        pays("losses = 3", true);
        pays("direct = 50", true);
        pays("hit = 2", true);
        pays("0", false);
        pays("1 - 2", true);
        pays("2 - 2", false);
        pays("not 0", true);
        pays("not 5", false);
        pays("not not 5 = 1", true);
        pays("not (1 - 2)", false);
        pays("1 or 1 and 0", false);
        pays("0 and 0 or 1", true);
        pays("1 or (1 and 0)", true);
        pays("2 and 3", true);
        pays("(2 and 3) = 1", true);
        pays("(0 or 3) = 1", true);
        pays("10 - 3 - 2 = 5", true);
        pays("10 - 3 + 2 = 9", true);
        pays("10 - (3 + 2) = 5", true);
        pays("1 < 1", false);
        pays("1 + 1 < 3 - 0", true);
        pays("0 < 1 - 2", false);
        pays("not 1 + 1", true);
        pays("not 0 = 0", false);
    }

    private static void left() {
        promise = 15;
        CoverHouses x = told(THREE + "layer l of a:100 over 50 10 to b again 2 at 7;share s of a:1 to b;"
                + "layer m of b:100 over 50 10 to c;");
        due("all of it", x.left(0), 300);
        due("a share", x.left(1), -1);
        due("without again", x.left(2), 100);
        due("treaty 3", x.left(3), -1);
        due("treaty -1", x.left(-1), -1);
        x.days(100);
        x.loss(0, 0, 0, 0, 0, 100);
        due("less", x.left(0), 250);
        for (int i = 1; i < 4; i++) {
            x.loss(0, 200 * i, 0, 0, 0, 1000);
        }
        due("used up", x.left(0), 0);
        due("the last had the rest", x.treaty(3, 0, 1), 50);
    }

    private static void commute() {
        promise = 16;
        CoverHouses x = told(THREE + "share s of a:333 to b and 333 to c;");
        due("no such treaty", x.commute(1, 5), false);
        due("below", x.commute(-1, 5), false);
        due("sum below 0", x.commute(0, -1), false);
        due("sum above", x.commute(0, 1000000), false);
        x.loss(0, 0, 0, 0, 0, 1000);
        x.days(2);
        due("commuted", x.commute(0, 999999), true);
        due("it is", x.commute(0, 999999), false);
        due("by sum", owed(x, 1, 0), 332999);
        due("for each part", owed(x, 2, 0), 332999);
        due("bears", x.bears(0), 1000 - 2 * 332999);
        x.view(1);
        due("not yet", owed(x, 1, 0), 333);
        due("it is, later", x.commute(0, 1), false);
        CoverHouses y = told(THREE + "share s of a:1000 to b;");
        due("a sum of 0", y.commute(0, 0), true);
        y.loss(0, 0, 0, 0, 0, 1000);
        due("nothing", owed(y, 1, 0), 0);
    }

    private static int owed(CoverHouses x, int a, int b) {
        try {
            return x.owed(a, b);
        } catch (NoSuchElementException e) {
            return Integer.MIN_VALUE;
        }
    }

    private static void owed() {
        promise = 17;
        CoverHouses x = told(THREE + "layer l of a:100 over 50 600 to b and 333 to c again 1 at 77;");
        x.days(40);
        x.loss(0, 0, 0, 0, 0, 120);
        x.loss(0, 240, 0, 0, 0, 500);
        due("b to a", owed(x, 1, 0), 42 + 60);
        due("c to a", owed(x, 2, 0), 23 + 33);
        // premiums of 53 and 23, cut once more for each part
        due("a to b", owed(x, 0, 1), 31 + 13);
        due("a to c", owed(x, 0, 2), 17 + 7);
        due("b to c", owed(x, 1, 2), 0);
        due("the same", owed(x, 1, 1), Integer.MIN_VALUE);
        due("house 3", owed(x, 3, 1), Integer.MIN_VALUE);
        due("to house 3", owed(x, 1, 3), Integer.MIN_VALUE);
        due("house -1", owed(x, -1, 1), Integer.MIN_VALUE);
        due("to house -1", owed(x, 1, -1), Integer.MIN_VALUE);
        CoverHouses y = told(THREE + "layer l of b:100 over 50 1000 to c again 1 at 77;");
        y.loss(1, 0, 0, 0, 0, 150);
        due("a premium of b", owed(y, 1, 2), 77);
    }

    private static int bears(CoverHouses x, int house) {
        try {
            return x.bears(house);
        } catch (NoSuchElementException e) {
            return Integer.MIN_VALUE;
        }
    }

    private static void bears() {
        promise = 18;
        CoverHouses x = told(THREE + "layer l of a:100 over 50 600 to b and 333 to c again 1 at 77;");
        x.days(40);
        due("nothing", bears(x, 0), 0);
        x.loss(0, 0, 0, 0, 0, 120);
        x.loss(0, 240, 0, 0, 0, 500);
        due("a", bears(x, 0), 620 + 44 + 24 - 102 - 56);
        due("b", bears(x, 1), 102 - 44);
        due("c", bears(x, 2), 56 - 24);
        due("house 3", bears(x, 3), Integer.MIN_VALUE);
        due("house -1", bears(x, -1), Integer.MIN_VALUE);
        due("no house at all", bears(new CoverHouses(), 0), Integer.MIN_VALUE);
    }

    private static void wants() {
        promise = 19;
        CoverHouses x = told(THREE + "layer l of a:100 over 0 1000 to b again 9 at 0;");
        x.days(5);
        for (int i = 0; i < 4; i++) {
            x.loss(0, i, 0, 0, i, 90);
        }
        // Of one event the layer takes 100; split at 1 or at 3, 90 and 100; at 2, 100 and 100.
        due("the best loss", x.wants(0), 2);
        due("b wants none", x.wants(1), -1);
        due("c doesn't care", x.wants(2), -1);
        due("house 3", x.wants(3), -1);
        due("house -1", x.wants(-1), -1);
        due("nothing has changed", x.events(), 1);
        x.split(1, true);
        // At 2 as at 3: 90, 90 and 100.
        due("the least loss of equal ones", x.wants(0), 2);
        x.split(2, true);
        x.split(3, true);
        due("all are split", x.wants(0), -1);
        x.split(2, false);
        x.leave(2, true);
        due("a loss that doesn't count", x.wants(0), -1);
        CoverHouses y = told(THREE + "layer l of a:100 over 100 1000 to b again 9 at 0;");
        y.days(5);
        y.loss(0, 0, 0, 0, 0, 10);
        y.loss(0, 1, 0, 0, 0, 110);
        y.loss(0, 2, 0, 0, 0, 100);
        y.loss(0, 3, 0, 0, 0, 170);
        // Of 390 in one event the layer takes 100; split at 1, 0 and 100; at 2, 20 and 100; at 3, 100 and 70.
        due("the last loss", y.wants(0), 3);
        y.word(0, 100);
        // Of 480: split at 1, 0 and 100; at 2, 100 and 100; at 3, 100 and 70.
        due("another loss", y.wants(0), 2);
        y.view(0);
        due("as known on a day", y.wants(0), -1);
        CoverHouses z = told(THREE + "layer l of a:100 over 0 1000 to b again 9 at 0;");
        z.loss(0, 5, 0, 0, 0, 90);
        z.loss(0, 0, 0, 0, 0, 90);
        due("a loss told ahead of its time", z.wants(0), 0);
    }

    private static void worst() {
        promise = 20;
        CoverHouses x = told(THREE + "share s of a:1000 to b;");
        due("no loss", x.worst(0, 6), 0);
        x.loss(1, 0, 0, 0, 0, 5);
        x.loss(1, 0, 0, 1, 3, 9);
        x.loss(1, 0, 0, 2, 5, 9);
        x.loss(0, 0, 0, 3, 1, 7);
        due("the worst one", x.worst(1, 1), 8);
        due("the worst two", x.worst(1, 2), 8 + 32);
        due("the worst three", x.worst(1, 3), 8 + 32 + 2);
        due("the worst four", x.worst(1, 4), 8 + 32 + 2 + 1);
        due("no more", x.worst(1, 6), 8 + 32 + 2 + 1);
        due("none for a", x.worst(0, 6), 0);
        due("k 0", x.worst(1, 0), -1);
        due("k 7", x.worst(1, 7), -1);
        due("house 3", x.worst(3, 1), -1);
        due("house -1", x.worst(-1, 1), -1);
        x.leave(3, true);
        due("left out stays so", x.worst(1, 1), 32);
        due("and the others", x.worst(1, 6), 32 + 2 + 1);
        due("it is left out still", x.events(), 3);
        CoverHouses y = told(THREE + "layer l of a:100 over 0 1000 to b again 1 at 500;");
        y.loss(0, 0, 0, 0, 2, 60);
        // The premium makes a storm a gain for b, which bears least with it.
        due("a storm that pays", y.worst(1, 6), 0);
        due("and costs a", y.worst(0, 6), 4);
        due("the state is as it was", y.events(), 1);
        y.commute(0, 500);
        due("owed without any storm", y.worst(1, 6), 0);
    }

    private static void purse() {
        promise = 21;
        CoverHouses x = new CoverHouses();
        due("0", x.purse(0, 0), true);
        due("11", x.purse(11, 99999999), true);
        due("12", x.purse(12, 0), false);
        due("-1", x.purse(-1, 0), false);
        due("below 0", x.purse(0, -1), false);
        due("above", x.purse(0, 100000000), false);
        Signs.wording(x, "house a;");
        x.loss(0, 0, 0, 0, 0, 10);
        due("an empty purse fails", x.count(8), 1);
        x.purse(0, 10);
        due("a purse is enough", x.count(8), 0);
        x.purse(0, 9);
        due("a purse below its direct", x.count(8), 1);
    }

    private static int clears(CoverHouses x, int house, int what) {
        try {
            return x.clears(house, what);
        } catch (NoSuchElementException e) {
            return Integer.MIN_VALUE;
        }
    }

    private static void clears() {
        promise = 22;
        CoverHouses x = told(THREE + "share s of a:300 to b and 700 to c;share t of b:500 to c;share u of c own:100 to b;");
        x.loss(0, 0, 0, 0, 0, 100);
        x.loss(1, 0, 0, 0, 0, 21);
        x.loss(2, 0, 0, 0, 0, 40);
        // b: 30 of a, 21 and 4 of c: 55, of which c pays 27. c: 70 + 27 + 40; b pays 4 of it.
        due("b to a", owed(x, 1, 0), 30);
        due("c to a", owed(x, 2, 0), 70);
        due("c to b", owed(x, 2, 1), 27);
        due("b to c", owed(x, 1, 2), 4);
        x.purse(0, 100);
        x.purse(1, 30);
        x.purse(2, 71);
        due("b owes net", clears(x, 1, 0), 30);
        due("c owes net", clears(x, 2, 0), 70 + 23);
        due("a owes nothing", clears(x, 0, 0), 0);
        due("c pays what it has", clears(x, 2, 1), 31);
        // Of 31: 31 * 70 / 93 = 23 and 31 * 23 / 93 = 7, cut.
        due("b gets", clears(x, 1, 2), 7);
        due("b pays", clears(x, 1, 1), 9 + 7);
        due("a gets", clears(x, 0, 2), 23 + 16);
        due("a stands", clears(x, 0, 3), 0);
        due("b failed", clears(x, 1, 3), 1);
        due("c failed", clears(x, 2, 3), 1);
        due("rounds", clears(x, 0, 4), 3);
        due("rounds of all", clears(x, 2, 4), 3);
        due("what 5", clears(x, 0, 5), Integer.MIN_VALUE);
        due("what -1", clears(x, 0, -1), Integer.MIN_VALUE);
        due("house 3", clears(x, 3, 0), Integer.MIN_VALUE);
        due("house -1", clears(x, -1, 0), Integer.MIN_VALUE);
        x.purse(1, 5);
        due("direct first: nothing is left", clears(x, 1, 1), 7);
        x.purse(2, 133);
        x.purse(1, 28);
        due("all is paid", clears(x, 2, 1), 93);
        due("b pays all", clears(x, 1, 1), 30);
        due("one round", clears(x, 0, 4), 1);
        due("none failed", x.count(8), 0);
    }

    /** Debts that go round and lose a little each time are cut off behind 200 rounds. */
    private static void slowClearing() {
        promise = 22;
        CoverHouses x = told("house a;house b;house c;house d;share p of b:1000 to a;share q of c:1000 to b;"
                + "share r of a:990 to c;share s of d:1 to a;");
        x.commute(0, 100000);
        x.commute(1, 100000);
        x.commute(2, 101011);
        x.commute(3, 1000);
        due("a to b", owed(x, 0, 1), 100000);
        due("a to d", owed(x, 0, 3), 1);
        due("rounds", clears(x, 0, 4), 200);
        due("a loses one by every third round", clears(x, 0, 1), 100000 - 66);
        due("b, too", clears(x, 1, 1), 100000 - 67);
        due("c, too", clears(x, 2, 1), 100000 - 66);
        due("a gets what c pays behind the last round", clears(x, 0, 2), 100000 - 66);
        due("b gets its part of what a pays behind it", clears(x, 1, 2), 100000 - 67);
        due("c gets what b pays behind it", clears(x, 2, 2), 100000 - 67);
        due("d gets nothing: 99934 * 1 / 100001, cut", clears(x, 3, 2), 0);
        due("all three and none but they failed", x.count(8), 3);
    }

    private static void known() {
        promise = 23;
        CoverHouses x = told("house a;");
        x.loss(7, 0, 0, 0, 0, 10);
        x.days(364);
        x.word(0, 20);
        due("on the last day", x.known(7, 0, 0), 20);
        x.loss(7, 364 * 24 + 23, 0, 0, 1, 5);
        due("of the last day", x.known(7, 0, 0), 25);
        due("can't be told", x.known(7, 0, 1), -1);
        x.days(1);
        x.word(0, 30);
        x.loss(7, 365 * 24, 0, 0, 1, 1000);
        x.loss(7, 0, 0, 0, 1, 3);
        due("not of a later day", x.known(7, 0, 0), 25);
        x.days(363);
        due("a day is missing", x.known(7, 0, 1), -1);
        x.days(1);
        due("with lag 1", x.known(7, 0, 1), 38);
        due("the next year", x.known(7, 1, 0), 1000);
        x.leave(0, true);
        x.leave(1, true);
        due("storms left out are not looked at", x.known(7, 0, 1), 38);
        due("another house", x.known(0, 0, 1), 0);
        due("house 12", x.known(12, 0, 0), -1);
        due("house -1", x.known(-1, 0, 0), -1);
        due("year -1", x.known(7, -1, 0), -1);
        due("lag -1", x.known(7, 0, -1), -1);
        x.view(728);
        due("by the view", x.known(7, 0, 1), -1);
        x.view(729);
        for (int i = 0; i < 9; i++) {
            x.days(1000);
        }
        x.days(9999 - x.count(4));
        due("lag 9", x.known(7, 0, 9), 38);
        due("lag 10", x.known(7, 0, 10), -1);
        due("year 26", x.known(7, 26, 0), 0);
        due("year 26 with a lag", x.known(7, 26, 1), -1);
        due("year 27", x.known(7, 27, 0), -1);
    }

    private static void factor() {
        promise = 24;
        CoverHouses x = new CoverHouses();
        due("nothing is known", x.factor(0, 0), 1000);
        x.loss(3, 0, 0, 0, 0, 7);
        x.loss(4, 0, 0, 0, 0, 1);
        x.loss(5, 0, 0, 0, 0, 9);
        x.loss(6, 0, 0, 0, 0, 0);
        x.days(365);
        x.word(0, 8);
        x.word(1, 100000);
        x.word(2, 0);
        x.word(3, 50);
        x.loss(3, 365 * 24, 0, 0, 0, 1000);
        due("can't be told yet", x.factor(3, 0), 1000);
        x.days(364);
        due("cut", x.factor(3, 0), 1142);
        due("1000000 at most", x.factor(4, 0), 1000000);
        due("down to 0", x.factor(5, 0), 0);
        due("nothing at first", x.factor(6, 0), 1000);
        x.days(365);
        due("over the same years", x.factor(3, 0), 1000);
        due("exactly", x.factor(3, 1), 1000);
        due("house 12", x.factor(12, 0), -1);
        due("house -1", x.factor(-1, 0), -1);
        due("lag 9", x.factor(0, 9), -1);
        due("lag -1", x.factor(0, -1), -1);
        due("lag 8", x.factor(0, 8), 1000);
    }

    private static void foretold() {
        promise = 25;
        CoverHouses x = new CoverHouses();
        x.loss(3, 0, 0, 0, 0, 7);
        due("not lag 0", x.foretold(3, 0), -1);
        x.days(365);
        due("lag 0", x.foretold(3, 0), 7);
        x.word(0, 8);
        x.loss(3, 365 * 24, 0, 0, 0, 999);
        x.days(365);
        x.word(0, 12);
        due("its own last lag", x.foretold(3, 0), 8);
        // FACTOR of 0 is 8 / 7: 1142; 999 * 1142 / 1000 = 1140, cut.
        due("by factor", x.foretold(3, 1), 1140);
        x.loss(3, 730 * 24, 0, 0, 0, 100);
        x.days(365);
        // FACTOR of 0: 1007 / 1006: 1000; of 1: 12 / 8: 1500.
        due("by both", x.foretold(3, 2), 150);
        due("by the second", x.foretold(3, 1), 1498);
        due("none of a later year", x.foretold(3, 3), -1);
        due("year 27", x.foretold(3, 27), -1);
        due("year -1", x.foretold(3, -1), -1);
        due("house 12", x.foretold(12, 0), -1);
        due("house -1", x.foretold(-1, 0), -1);
        due("house 11", x.foretold(11, 0), 0);
        foretoldAtMost();
        foretoldAtLastLag();
    }

    private static void foretoldAtLastLag() {
        CoverHouses y = new CoverHouses();
        y.loss(0, 0, 0, 0, 0, 100);
        y.days(1000);
        y.days(1000);
        y.days(1000);
        y.days(648);
        due("a day ahead of lag 9", y.known(0, 0, 9), -1);
        y.days(1);
        y.loss(0, 3649 * 24, 0, 0, 0, 700);
        due("the year's last day", y.foretold(0, 9), 700);
        due("lag 9 has no factor", y.foretold(0, 0), 100);
        y.days(1);
        y.word(0, 500);
        y.days(1000);
        due("what is known behind lag 9 is not looked at", y.foretold(0, 0), 100);
    }

    private static void foretoldAtMost() {
        CoverHouses y = new CoverHouses();
        y.loss(0, 0, 0, 0, 0, 1);
        y.days(365);
        y.word(0, 1000);
        y.days(365);
        y.loss(0, 365 * 24, 0, 0, 0, 0);
        y.word(0, 100000);
        y.loss(0, 730 * 24, 0, 0, 0, 90000);
        y.loss(0, 730 * 24, 0, 0, 0, 90000);
        y.days(365);
        // 180000 times 1000, times 100: no more than 1000000000.
        due("factor 0", y.factor(0, 0), 1000000);
        due("factor 1", y.factor(0, 1), 100000);
        due("1000000000 at most", y.foretold(0, 2), 1000000000);
    }

    private static int look(CoverHouses x, int loss, int what) {
        try {
            return x.look(loss, what);
        } catch (NoSuchElementException e) {
            return Integer.MIN_VALUE;
        }
    }

    private static void look() {
        promise = 26;
        CoverHouses x = new CoverHouses();
        due("none such", look(x, 0, 0), Integer.MIN_VALUE);
        x.days(3);
        x.loss(11, 72, 345, 6, 5, 789);
        due("house", look(x, 0, 0), 11);
        due("hour", look(x, 0, 1), 72);
        due("place", look(x, 0, 2), 345);
        due("cause", look(x, 0, 3), 6);
        due("storm", look(x, 0, 4), 5);
        due("amount", look(x, 0, 5), 789);
        due("no split", look(x, 0, 6), 0);
        x.split(0, true);
        due("split", look(x, 0, 6), 1);
        due("what 7", look(x, 0, 7), Integer.MIN_VALUE);
        due("what -1", look(x, 0, -1), Integer.MIN_VALUE);
        due("loss 1", look(x, 1, 0), Integer.MIN_VALUE);
        due("loss -1", look(x, -1, 0), Integer.MIN_VALUE);
        x.view(2);
        due("not told by then", look(x, 0, 5), -1);
        due("its place is", look(x, 0, 2), 345);
    }

    private static void count() {
        promise = 27;
        CoverHouses x = told(THREE + "share s of a:500 to b;share t of b:500 to c;");
        x.days(7);
        x.loss(0, 0, 0, 0, 0, 10);
        x.loss(0, 0, 0, 0, 1, 10);
        x.loss(4, 0, 0, 0, 0, 10);
        x.loss(0, 0, 0, 0, 0, 0);
        x.word(0, 20);
        x.commute(1, 5);
        x.leave(1, true);
        Signs.feed(x, "house");
        due("houses", x.count(0), 3);
        due("treaties", x.count(1), 2);
        due("losses", x.count(2), 4);
        due("words", x.count(3), 5);
        due("now", x.count(4), 7);
        due("the view", x.count(5), 7);
        due("losses that count", x.count(6), 1);
        due("commuted", x.count(7), 1);
        due("failed", x.count(8), 3);
        due("signs", x.count(9), 5);
        due("10", x.count(10), -1);
        due("-1", x.count(-1), -1);
        x.view(6);
        due("commuted by the view", x.count(7), 0);
        due("the view is told", x.count(5), 6);
        due("now stays", x.count(4), 7);
        due("none counts by the view", x.count(6), 0);
        due("all losses", x.count(2), 4);
    }
}
