/** Puts texts on the tape; open to all, for whoever uses the class as README.md shows. */
public final class Signs {
    private Signs() {
    }

    /** Up to 24 signs of a text from a place on, as the three numbers of feed. */
    public static long[] packed(String text, int from) {
        long[] abc = new long[3];
        for (int i = 0; i < 24 && from + i < text.length(); i++) {
            abc[i / 8] |= (long) (text.charAt(from + i) & 255) << (56 - 8 * (i % 8));
        }
        return abc;
    }

    public static int feed(CoverHouses houses, String text) {
        int there = houses.count(9);
        for (int i = 0; i < text.length(); i += 24) {
            long[] abc = packed(text, i);
            there = houses.feed(abc[0], abc[1], abc[2]);
        }
        return there;
    }

    public static int wording(CoverHouses houses, String text) {
        feed(houses, text);
        return houses.wording();
    }
}
