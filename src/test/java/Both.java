/** The class and its second, plain reading, told the same. */
final class Both {
    final CoverHouses fast = new CoverHouses();
    final PlainHouses plain = new PlainHouses();

    Both(String wording, int day) {
        Signs.feed(fast, wording);
        for (int i = 0; i < wording.length(); i += 24) {
            long[] abc = Signs.packed(wording, i);
            plain.feed(abc[0], abc[1], abc[2]);
        }
        Edges.due(wording, fast.wording(), 0);
        Edges.due(wording, plain.wording(), 0);
        for (int left = day; left > 0; left -= 1000) {
            fast.days(Math.min(1000, left));
            plain.days(Math.min(1000, left));
        }
    }

    int loss(int house, int hour, int cause, int storm, int amount) {
        int loss = fast.loss(house, hour, 0, cause, storm, amount);
        Edges.due("LOSS", loss, plain.loss(house, hour, 0, cause, storm, amount));
        return loss;
    }

    void commute(int treaty, int sum) {
        Edges.need("commuted", fast.commute(treaty, sum) && plain.commute(treaty, sum));
    }

    void purse(int house, int n) {
        Edges.need("purse", fast.purse(house, n) && plain.purse(house, n));
    }

    /** OWED of all to all and BEARS of all, by 64-bit sums in the second reading. */
    void compareOwed() {
        PlainHouses.State state = plain.state();
        for (int a = 0; a < fast.count(0); a++) {
            for (int b = 0; b < fast.count(0); b++) {
                if (a != b) {
                    Edges.due("owed " + a + " " + b, fast.owed(a, b), state.owed[a][b]);
                }
            }
            Edges.due("bears " + a, fast.bears(a), state.bears(a));
        }
    }

    void compareClears() {
        for (int house = 0; house < fast.count(0); house++) {
            for (int what = 0; what <= 4; what++) {
                Edges.due("clears " + house + " " + what, fast.clears(house, what), plain.clears(house, what));
            }
        }
        Edges.due("FAILED", fast.count(8), plain.count(8));
    }
}
