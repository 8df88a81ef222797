import java.util.NoSuchElementException;
import java.util.function.IntSupplier;

/** What an object tells, as a text, in some 120 calls: two objects with the same portrait are told the same. */
final class Portrait {
    private static final String WORDING = "house a;house b;house c;house d;event 0 hours 24 miles 50;"
            + "share s of a:300 to b and 200 to c;layer l of b own:100 over 20 600 to c and 333 to d again 2 at 77;"
            + "share t of c:500 to a when losses<3;layer m of d:50 over 10 1000 to a;";

    private final CoverHouses x;
    private final StringBuilder text = new StringBuilder();

    private Portrait(CoverHouses x) {
        this.x = x;
    }

    /** Something of everything: 5 LOSSES, words, a SPLIT, a storm left out, a treaty commuted, PURSES, signs on the TAPE. */
    static CoverHouses sitter() {
        CoverHouses x = Edges.told(WORDING);
        x.loss(0, 3, 100, 0, 0, 400);
        x.loss(1, 5, 120, 0, 1, 150);
        x.days(400);
        x.word(0, 500);
        x.loss(2, 30, 130, 0, 2, 90);
        x.loss(3, 9000, 500, 4, 3, 75);
        x.loss(1, 9001, 500, 4, 4, 60);
        x.days(350);
        x.word(3, 95);
        x.split(2, true);
        x.leave(4, true);
        x.commute(2, 40);
        x.purse(0, 300);
        x.purse(1, 200);
        x.purse(3, 20);
        Signs.feed(x, "house q; ! house");
        return x;
    }

    /** Told things that lay open what a call might have left behind. */
    static String later(CoverHouses x) {
        x.days(3);
        x.word(1, 170);
        x.loss(0, 9002, 480, 4, 5, 33);
        String first = of(x);
        x.view(x.count(4));
        x.leave(4, false);
        x.split(4, true);
        x.commute(3, 7);
        x.purse(2, 50);
        int fault = x.wording();
        return first + fault + of(x);
    }

    static String of(CoverHouses x) {
        Portrait portrait = new Portrait(x);
        portrait.counts();
        portrait.events();
        portrait.houses();
        portrait.losses();
        return portrait.text.toString();
    }

    private void add(int n) {
        text.append(n).append(' ');
    }

    private void add(IntSupplier call) {
        try {
            add(call.getAsInt());
        } catch (NoSuchElementException e) {
            text.append("none ");
        }
    }

    private void counts() {
        for (int what = 0; what <= 9; what++) {
            add(x.count(what));
        }
        add(x.events());
    }

    private void events() {
        for (int event = 0; event < 2; event++) {
            for (int what = 0; what <= 4; what++) {
                add(x.event(event, what));
            }
            for (int house = 0; house < 4; house++) {
                add(x.gross(event, house, 1));
            }
        }
        for (int treaty = 0; treaty < 4; treaty++) {
            for (int what = 0; what <= 4; what++) {
                add(x.treaty(0, treaty, what));
            }
            add(x.left(treaty));
        }
    }

    private void houses() {
        for (int house = 0; house < 4; house++) {
            int of = house;
            add(() -> x.bears(of));
            add(() -> x.owed(of, (of + 1) % 4));
            add(() -> x.owed((of + 1) % 4, of));
            add(() -> x.clears(of, 1));
            add(() -> x.clears(of, 2));
            add(x.wants(house));
            add(x.worst(house, 2));
            add(x.known(house, 0, 0));
            add(x.foretold(house, 0));
        }
        add(() -> x.clears(0, 4));
        add(x.factor(0, 0));
        add(x.known(0, 0, 1));
    }

    private void losses() {
        for (int loss = 0; loss < 5; loss++) {
            int of = loss;
            add(x.eventOf(loss));
            add(() -> x.look(of, 5));
            add(() -> x.look(of, 6));
        }
    }
}
