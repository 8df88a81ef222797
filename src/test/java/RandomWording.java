import java.util.Random;

/** A wording that mostly has no fault, with loops of treaties among few houses. */
final class RandomWording {
    private final Random random;
    private final boolean atEdges;
    private final StringBuilder text = new StringBuilder();
    private int houses = 0;
    private int treaties = 0;

    RandomWording(Random random, boolean atEdges) {
        this.random = random;
        this.atEdges = atEdges;
    }

    String text() {
        int first = pick(0, 5);
        for (int i = 0; i < first; i++) {
            house();
        }
        int more = once(12) ? pick(10, 40) : pick(0, 9);
        for (int i = 0; i < more; i++) {
            switch (random.nextInt(10)) {
                case 0:
                    event();
                    break;
                case 1:
                    house();
                    break;
                default:
                    if (houses > 1 || once(4)) {
                        treaty();
                    }
                    break;
            }
        }
        return text.toString();
    }

    private int pick(int least, int most) {
        return least + random.nextInt(most - least + 1);
    }

    /** One of the ends, if ends are asked for. */
    private int end(int least, int most, int within) {
        return !atEdges || once(3) ? within : once(2) ? least : most;
    }

    private boolean once(int in) {
        return random.nextInt(in) == 0;
    }

    private void house() {
        if (houses >= 12 && !once(4)) {
            return;
        }
        text.append("house ").append(name(once(30) ? pick(0, 12) : houses)).append(once(2) ? " ;" : ";\n");
        houses++;
    }

    private String name(int house) {
        return "h" + (char) ('a' + Math.max(0, house));
    }

    private String told() {
        return name(once(60) ? houses : random.nextInt(Math.max(1, houses)));
    }

    private void event() {
        text.append("event ").append(once(20) ? pick(0, 9) : pick(0, 3)).append("hours ")
                .append(end(1, 999, once(20) ? pick(0, 1001) : pick(1, 200))).append(" miles ")
                .append(end(0, 999, once(20) ? pick(0, 1001) : pick(0, 150))).append(";");
    }

    private void treaty() {
        boolean layer = random.nextBoolean();
        String owner = told();
        text.append(layer ? "layer " : "share ").append("t").append((char) ('a' + treaties % 26))
                .append(treaties > 25 ? "x" : "").append(" of ").append(owner).append(once(4) ? " own:" : " : ");
        treaties++;
        if (layer) {
            text.append(end(1, 999999, once(20) ? pick(0, 999999) : pick(1, 4000))).append(" over ")
                    .append(end(0, pick(99998, 100001), once(20) ? pick(0, 999999) : pick(0, 1500))).append(' ');
        }
        parts(owner);
        if (once(3) && (layer || once(30))) {
            text.append(" again ").append(end(0, 9, once(20) ? pick(0, 11) : pick(0, 3))).append(" at ")
                    .append(end(0, 999999, pick(0, 900)));
        }
        if (once(3)) {
            text.append(" when ");
            either(0);
        }
        text.append("; ");
    }

    private void parts(String owner) {
        int parts = pick(1, 3);
        int room = 1000;
        String used = owner;
        for (int i = 0; i < parts; i++) {
            String to = told();
            if (used.contains(to) && !once(40)) {
                for (int h = 0; h < houses && used.contains(to); h++) {
                    to = name(h);
                }
                if (used.contains(to) && i > 0) {
                    return;
                }
            }
            used += to;
            int share = once(50) ? pick(0, 1001) : i == 0 && once(4) ? 1000
                    : end(1, room, Math.min(room, pick(1, 900)));
            room -= share;
            text.append(i == 0 ? "" : " and ").append(share).append(" to ").append(to);
            if (room <= 0) {
                return;
            }
        }
    }

    private void either(int depth) {
        for (int i = pick(1, 2); i > 0; i--) {
            test(depth);
            if (i > 1) {
                text.append(once(2) ? " and " : " or ");
            }
        }
    }

    private void test(int depth) {
        sum(depth);
        if (!once(4)) {
            text.append(once(3) ? "=" : "<");
            sum(depth);
        }
    }

    private void sum(int depth) {
        value(depth);
        while (once(4)) {
            text.append(once(2) ? "+" : " - ");
            value(depth);
        }
    }

    private void value(int depth) {
        // Within four others any value is a fault, so that most conditions stay above that.
        boolean deeper = depth < 3 || depth < 6 && once(20);
        int kind = random.nextInt(deeper ? 11 : 8);
        if (kind < 3) {
            text.append(new int[] {0, 1, 2, 3, 5, 10, 100, 1000, 999999}[random.nextInt(9)]).append(' ');
        } else if (kind < 8) {
            text.append(new String[] {"cause", "day", "losses", "direct", "hit"}[kind - 3]).append(' ');
        } else if (kind == 8) {
            text.append(" not ");
            value(depth + 1);
        } else {
            text.append("(");
            either(depth + 1);
            text.append(")");
        }
    }
}
