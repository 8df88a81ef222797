import java.util.NoSuchElementException;
import java.util.Random;

/** Long runs of mixed calls: the class and PlainHouses must answer alike. */
public final class RandomRunsTest {
    private static final int THROWN = Integer.MIN_VALUE;

    private static final int[] EDGES = {-1, 0, 1, 4, 5, 6, 11, 12, 60, 999, 1000, 1001, 99999, 100000, 100001, 999999, 1000000,
        99999999, 100000000};

    private final Random random;
    // Numbers at the ends of their ranges more often than within them.
    private final boolean atEdges;
    private final CoverHouses fast = new CoverHouses();
    private final PlainHouses plain = new PlainHouses();
    private final StringBuilder log = new StringBuilder();
    private int calls = 0;
    private boolean agrees = true;

    private RandomRunsTest(long seed, boolean atEdges) {
        random = new Random(seed);
        this.atEdges = atEdges;
    }

    public static void main(String[] args) {
        int runs = args.length > 0 ? Integer.parseInt(args[0]) : 400;
        long from = args.length > 1 ? Long.parseLong(args[1]) : 1;
        int wrong = 0;
        int calls = 0;
        for (long seed = from; seed < from + runs && wrong < 5; seed++) {
            RandomRunsTest run = new RandomRunsTest(seed, seed % 2 == 0);
            run.go();
            calls += run.calls;
            if (!run.agrees) {
                wrong++;
                System.out.println("seed " + seed + ":\n" + run.log);
            }
        }
        System.out.println("RandomRunsTest: " + calls + " calls, " + wrong + " runs differ");
        if (wrong > 0) {
            System.exit(1);
        }
    }

    private int pick(int least, int most) {
        return least + random.nextInt(most - least + 1);
    }

    private boolean once(int in) {
        return random.nextInt(in) == 0;
    }

    private void go() {
        int length = pick(60, 300);
        int dearOnes = 0;
        tellWording();
        for (int i = 0; i < length && agrees && calls < 512; i++) {
            int kind = random.nextInt(100);
            if (kind < 3) {
                tellWording();
            } else if (kind < 40) {
                change();
            } else if (kind < 43 && dearOnes < 4) {
                dearOnes++;
                askDear();
            } else {
                ask();
            }
        }
    }

    private void check(String call, int got, int due) {
        calls++;
        log.append(call).append(" -> ").append(got).append('\n');
        if (got != due) {
            agrees = false;
            log.append("   due is ").append(due).append('\n');
        }
    }

    private void change() {
        int house = once(15) ? pick(-1, 12) : pick(0, 4);
        int loss = once(10) ? pick(-1, 60) : pick(0, Math.max(0, plain.losses.size() - 1));
        boolean yes = random.nextBoolean();
        switch (random.nextInt(11)) {
            case 0:
            case 1:
            case 2:
            case 3:
                loss(house);
                break;
            case 4:
            case 5: {
                int amount = amount();
                check("word " + loss + " " + amount, fast.word(loss, amount) ? 1 : 0,
                        plain.word(loss, amount) ? 1 : 0);
                break;
            }
            case 6: {
                int n = atEdges ? edgeOfDays() : once(3) ? pick(0, 1001) : pick(-1, 40);
                check("days " + n, fast.days(n), plain.days(n));
                break;
            }
            case 7: {
                int day = once(2) ? plain.now : atEdges ? edgeOfView() : pick(-1, plain.now + 1);
                check("view " + day, fast.view(day) ? 1 : 0, plain.view(day) ? 1 : 0);
                break;
            }
            case 8:
                check("split " + loss + yes, fast.split(loss, yes) ? 1 : 0, plain.split(loss, yes) ? 1 : 0);
                break;
            case 9:
                if (once(3)) {
                    int treaty = pick(-1, 5);
                    int sum = atEdges ? edge() : once(4) ? pick(-1, 1000000) : pick(0, 500);
                    check("commute " + treaty + " " + sum, fast.commute(treaty, sum) ? 1 : 0,
                            plain.commute(treaty, sum) ? 1 : 0);
                } else {
                    int storm = once(10) ? pick(-1, 6) : pick(0, 5);
                    boolean out = once(3);
                    check("leave " + storm + out, fast.leave(storm, out) ? 1 : 0, plain.leave(storm, out) ? 1 : 0);
                }
                break;
            default: {
                int n = atEdges ? edge() : once(5) ? pick(-1, 100000000) : pick(0, 5000);
                check("purse " + house + " " + n, fast.purse(house, n) ? 1 : 0, plain.purse(house, n) ? 1 : 0);
                break;
            }
        }
    }

    private int edge() {
        return EDGES[random.nextInt(EDGES.length)];
    }

    private int edgeOfDays() {
        int toTheYear = 364 - plain.now % 365;
        return new int[] {0, 1, 1, toTheYear, toTheYear + 1, 364, 365, 1000, 1001, 9999 - plain.now, 10000 - plain.now,
            -1}[random.nextInt(12)];
    }

    private int edgeOfView() {
        int lastOfAYear = pick(1, 1 + plain.now / 365) * 365 - 1;
        return new int[] {lastOfAYear - 1, lastOfAYear, lastOfAYear + 1, 0, -1, plain.now - 1, plain.now + 1}[random.nextInt(7)];
    }

    private int edgeOfHour() {
        int day = Math.max(0, once(2) ? plain.now : Math.min(plain.now, pick(0, plain.now / 365 + 1) * 365 - pick(0, 1)));
        int hour = day * 24 + (once(2) ? 23 : 0);
        return once(10) ? hour + 24 : once(10) ? -1 : once(4) ? Math.max(0, hour - pick(166, 169)) : hour;
    }

    private int amount() {
        if (atEdges) {
            return once(12) ? edge() : new int[] {0, 1, 2, 999, 1000, 1001, 99999, 100000}[random.nextInt(8)];
        }
        return once(10) ? 0 : once(10) ? pick(-1, 100001) : once(5) ? pick(50000, 100000) : pick(1, 3000);
    }

    private void loss(int house) {
        int latest = plain.now * 24 + 23;
        int hour = atEdges ? edgeOfHour() : once(4) ? pick(-1, latest + 1) : Math.max(0, latest - pick(0, 300));
        int place = atEdges && once(2) ? edge() : once(20) ? pick(-1, 1000) : pick(0, 200);
        int cause = once(20) ? pick(-1, 8) : pick(0, 1);
        int storm = once(20) ? pick(-1, 6) : pick(0, 5);
        int amount = amount();
        check("loss " + house + " " + hour + " " + place + " " + cause + " " + storm + " " + amount,
                fast.loss(house, hour, place, cause, storm, amount),
                plain.loss(house, hour, place, cause, storm, amount));
    }

    private void askDear() {
        int house = pick(-1, plain.deed.houses.size());
        int k = pick(0, 7);
        if (random.nextBoolean()) {
            check("worst " + house + " " + k, fast.worst(house, k), plain.worst(house, k));
        } else {
            check("wants " + house, fast.wants(house), plain.wants(house));
        }
    }

    private void ask() {
        int event = pick(-1, Math.min(8, plain.events()));
        int house = pick(-1, plain.deed.houses.size());
        int other = pick(-1, plain.deed.houses.size());
        int treaty = pick(-1, plain.deed.deals.size());
        int what = pick(-1, 5);
        int loss = pick(-1, plain.losses.size());
        int any = pick(-1, 12);
        int year = once(10) ? pick(-1, 27) : pick(0, atEdges ? 27 : 5);
        int lag = pick(-1, 10);
        switch (random.nextInt(13)) {
            case 0:
                check("events", fast.events(), plain.events());
                break;
            case 1:
                check("event " + event + " " + what, fast.event(event, what), plain.event(event, what));
                break;
            case 2:
                check("eventOf " + loss, fast.eventOf(loss), plain.eventOf(loss));
                break;
            case 3:
                check("gross " + event + " " + house + " " + what, fast.gross(event, house, what),
                        plain.gross(event, house, what));
                break;
            case 4:
                check("treaty " + event + " " + treaty + " " + what, fast.treaty(event, treaty, what),
                        plain.treaty(event, treaty, what));
                break;
            case 5:
                check("left " + treaty, fast.left(treaty), plain.left(treaty));
                break;
            case 6:
                check("owed " + house + " " + other, owed(house, other), plainOwed(house, other));
                break;
            case 7:
                check("bears " + house, bears(house), plainBears(house));
                break;
            case 8:
                check("clears " + house + " " + what, clears(house, what), plainClears(house, what));
                break;
            case 9:
                check("known " + any + " " + year + " " + lag, fast.known(any, year, lag),
                        plain.known(any, year, lag));
                break;
            case 10:
                check("factor " + any + " " + lag, fast.factor(any, lag), plain.factor(any, lag));
                check("foretold " + any + " " + year, fast.foretold(any, year), plain.foretold(any, year));
                break;
            case 11:
                check("look " + loss + " " + lag, look(loss, lag), plainLook(loss, lag));
                break;
            default:
                check("count " + lag, fast.count(lag), plain.count(lag));
                break;
        }
    }

    private int owed(int a, int b) {
        try {
            return fast.owed(a, b);
        } catch (NoSuchElementException e) {
            return THROWN;
        }
    }

    private int plainOwed(int a, int b) {
        try {
            return plain.owed(a, b);
        } catch (NoSuchElementException e) {
            return THROWN;
        }
    }

    private int bears(int house) {
        try {
            return fast.bears(house);
        } catch (NoSuchElementException e) {
            return THROWN;
        }
    }

    private int plainBears(int house) {
        try {
            return plain.bears(house);
        } catch (NoSuchElementException e) {
            return THROWN;
        }
    }

    private int clears(int house, int what) {
        try {
            return fast.clears(house, what);
        } catch (NoSuchElementException e) {
            return THROWN;
        }
    }

    private int plainClears(int house, int what) {
        try {
            return plain.clears(house, what);
        } catch (NoSuchElementException e) {
            return THROWN;
        }
    }

    private int look(int loss, int what) {
        try {
            return fast.look(loss, what);
        } catch (NoSuchElementException e) {
            return THROWN;
        }
    }

    private int plainLook(int loss, int what) {
        try {
            return plain.look(loss, what);
        } catch (NoSuchElementException e) {
            return THROWN;
        }
    }

    // ---- wordings

    private void tellWording() {
        String text = new RandomWording(random, atEdges).text();
        if (once(3)) {
            text = spoil(text);
        }
        log.append(text).append('\n');
        for (int i = 0; i < text.length() && i < 1560; i += 24) {
            long[] abc = Signs.packed(text, i);
            check("feed", fast.feed(abc[0], abc[1], abc[2]), plain.feed(abc[0], abc[1], abc[2]));
        }
        check("wording", fast.wording(), plain.wording());
    }

    private String spoil(String text) {
        StringBuilder spoilt = new StringBuilder(text);
        String bits = "  \n;:()<=+-09zA!" + (char) 126;
        for (int i = pick(1, 2); i > 0 && spoilt.length() > 2; i--) {
            int at = random.nextInt(spoilt.length() - 1);
            switch (random.nextInt(4)) {
                case 0:
                    spoilt.deleteCharAt(at);
                    break;
                case 1:
                    spoilt.insert(at, bits.charAt(random.nextInt(bits.length())));
                    break;
                case 2:
                    spoilt.setLength(at);
                    break;
                default:
                    spoilt.insert(at, new String[] {" and ", " not ", " (", ") ", " when ", " house ", "1000000",
                        " own ", " 7 ", " a "}[random.nextInt(10)]);
                    break;
            }
        }
        return spoilt.toString();
    }
}
