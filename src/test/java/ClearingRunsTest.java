import java.util.Random;

/** Rings of debts that leak a little: many of them still change behind 200 rounds; all that clears tells is compared. */
public final class ClearingRunsTest {
    private static final int MOST_ROUNDS = 200;

    private final Random random;
    private final int houses;
    private final CoverHouses fast = new CoverHouses();
    private final PlainHouses plain = new PlainHouses();
    private final StringBuilder log = new StringBuilder();
    private int treaties = 0;
    private boolean agrees = true;

    private ClearingRunsTest(long seed) {
        random = new Random(seed);
        houses = pick(4, 8);
    }

    public static void main(String[] args) {
        int runs = args.length > 0 ? Integer.parseInt(args[0]) : 300;
        long from = args.length > 1 ? Long.parseLong(args[1]) : 1;
        int wrong = 0;
        int slow = 0;
        for (long seed = from; seed < from + runs && wrong < 5; seed++) {
            ClearingRunsTest run = new ClearingRunsTest(seed);
            run.go();
            slow += run.fast.clears(0, 4) == MOST_ROUNDS ? 1 : 0;
            if (!run.agrees) {
                wrong++;
                System.out.println("seed " + seed + ":\n" + run.log);
            }
        }
        System.out.println("ClearingRunsTest: " + slow + " of " + runs + " with 200 rounds, " + wrong + " runs differ");
        if (wrong > 0 || slow < runs / 10) {
            System.exit(1);
        }
    }

    private int pick(int least, int most) {
        return least + random.nextInt(most - least + 1);
    }

    private void go() {
        String text = wording();
        log.append(text).append('\n');
        Signs.wording(fast, text);
        for (int i = 0; i < text.length(); i += 24) {
            long[] abc = Signs.packed(text, i);
            plain.feed(abc[0], abc[1], abc[2]);
        }
        check("wording", plain.wording(), 0);
        for (int i = 0; i < treaties; i++) {
            int sum = random.nextInt(3) == 0 ? pick(900000, 999999) : 999999;
            check("commute " + i + " " + sum, fast.commute(i, sum) ? 1 : 0, plain.commute(i, sum) ? 1 : 0);
        }
        compare();
        int house = pick(0, houses - 1);
        int purse = pick(0, 5000);
        check("purse " + house + " " + purse, fast.purse(house, purse) ? 1 : 0, plain.purse(house, purse) ? 1 : 0);
        compare();
    }

    /** A ring of all HOUSES but the last ones, each of which is owed a little by one of the ring. */
    private String wording() {
        StringBuilder text = new StringBuilder();
        for (int i = 0; i < houses; i++) {
            text.append("house ").append((char) ('a' + i)).append(';');
        }
        int ring = pick(3, houses - 1);
        int leak = pick(1, 20);
        for (int i = 0; i < ring; i++) {
            share(text, (i + 1) % ring, i == 0 ? 1000 - leak : 1000, i);
        }
        for (int i = ring; i < houses; i++) {
            share(text, i, pick(1, leak), pick(0, ring - 1));
        }
        return text.toString();
    }

    private void share(StringBuilder text, int owner, int part, int debtor) {
        text.append("share t").append((char) ('a' + treaties)).append(" of ").append((char) ('a' + owner)).append(':')
                .append(part).append(" to ").append((char) ('a' + debtor)).append(';');
        treaties++;
    }

    private void compare() {
        for (int house = 0; house < houses; house++) {
            for (int what = 0; what <= 4; what++) {
                check("clears " + house + " " + what, fast.clears(house, what), plain.clears(house, what));
            }
            check("parts of what is paid to " + house, fast.clears(house, 2), partsOfPaid(house));
        }
        check("count 8", fast.count(8), plain.count(8));
    }

    /** From the answers of the class itself: part 5 says what of a payment comes to whom. */
    private int partsOfPaid(int house) {
        long parts = 0;
        for (int other = 0; other < houses; other++) {
            if (other != house && fast.clears(other, 0) > 0) {
                long net = Math.max(0, fast.owed(other, house) - fast.owed(house, other));
                parts += fast.clears(other, 1) * net / fast.clears(other, 0);
            }
        }
        return (int) parts;
    }

    private void check(String call, int got, int due) {
        log.append(call).append(" -> ").append(got).append('\n');
        if (got != due) {
            agrees = false;
            log.append("   due is ").append(due).append('\n');
        }
    }
}
