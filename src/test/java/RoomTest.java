import java.lang.management.ManagementFactory;
import java.lang.reflect.Array;
import java.lang.reflect.Field;
import java.lang.reflect.Modifier;
import java.util.ArrayDeque;
import java.util.Collections;
import java.util.Deque;
import java.util.IdentityHashMap;
import java.util.Set;

/** What an object takes of the one room in which all calls of a run live: much when it is made, nothing at a call. */
public final class RoomTest {
    // A run's room has some 600,000 objects and 7,300,000 fields and elements; a run may make many objects of the class.
    private static final int MOST_OBJECTS_NEW = 300;
    private static final int MOST_FIELDS_NEW = 12000;
    private static final int MOST_OBJECTS_FULL = 1000;
    private static final int MOST_FIELDS_FULL = 25000;
    private static final int LOSSES = 60;
    private static final int LAST_DAY = 9999;
    // The virtual machine's own: a few numbers of reflection and of the clock.
    private static final long MOST_BYTES = 4096;

    private static int wrong = 0;

    private RoomTest() {
    }

    public static void main(String[] args) throws IllegalAccessException {
        long[] atFirst = room(new CoverHouses());
        need(atFirst[0] <= MOST_OBJECTS_NEW && atFirst[1] <= MOST_FIELDS_NEW, "a new object", atFirst);
        CoverHouses x = full();
        long[] full = room(x);
        need(full[0] <= MOST_OBJECTS_FULL && full[1] <= MOST_FIELDS_FULL, "a full object", full);
        askAll(x);
        long[] bytes = {allocated(x)};
        need(bytes[0] <= MOST_BYTES, "bytes of all calls", bytes);
        long[] afterAll = room(x);
        need(afterAll[0] == full[0] && afterAll[1] == full[1], "a full object after all calls", afterAll);
        System.out.println("RoomTest: new " + atFirst[0] + " objects, " + atFirst[1] + " fields and elements; full "
                + full[0] + ", " + full[1] + "; all calls " + bytes[0] + " bytes; " + wrong + " wrong");
        if (wrong > 0) {
            System.exit(1);
        }
    }

    private static void need(boolean holds, String what, long[] got) {
        if (!holds) {
            wrong++;
            System.out.println("not so: " + what + ": " + java.util.Arrays.toString(got));
        }
    }

    /** Objects and arrays that it reaches, and their fields and elements. */
    private static long[] room(Object root) throws IllegalAccessException {
        Set<Object> seen = Collections.newSetFromMap(new IdentityHashMap<>());
        Deque<Object> open = new ArrayDeque<>();
        open.add(root);
        seen.add(root);
        long fields = 0;
        while (!open.isEmpty()) {
            Object object = open.remove();
            fields += object.getClass().isArray() ? visitArray(object, seen, open) : visitFields(object, seen, open);
        }
        return new long[] {seen.size(), fields};
    }

    private static long visitArray(Object array, Set<Object> seen, Deque<Object> open) {
        if (!array.getClass().getComponentType().isPrimitive()) {
            for (Object element : (Object[]) array) {
                add(element, seen, open);
            }
        }
        return Array.getLength(array);
    }

    private static long visitFields(Object object, Set<Object> seen, Deque<Object> open) throws IllegalAccessException {
        long fields = 0;
        for (Field field : object.getClass().getDeclaredFields()) {
            if (!Modifier.isStatic(field.getModifiers())) {
                fields++;
                if (!field.getType().isPrimitive()) {
                    field.setAccessible(true);
                    add(field.get(object), seen, open);
                }
            }
        }
        return fields;
    }

    private static void add(Object object, Set<Object> seen, Deque<Object> open) {
        if (object != null && seen.add(object)) {
            open.add(object);
        }
    }

    /** The most of everything: 12 HOUSES, 24 treaties, 60 EVENTS. */
    private static CoverHouses full() {
        CoverHouses x = new CoverHouses();
        Edges.pass(x, LAST_DAY);
        need(Signs.wording(x, wording()) == 0, "the wording is in force", new long[0]);
        for (int i = 0; i < LOSSES; i++) {
            x.loss(i % 12, i * 400, 0, 0, i % 6, 1000 + i);
        }
        need(x.events() == LOSSES && x.count(1) == 24, "all there can be", new long[] {x.events(), x.count(1)});
        return x;
    }

    private static String wording() {
        StringBuilder text = new StringBuilder(Edges.houses(12));
        for (int i = 0; i < 24; i++) {
            char owner = (char) ('a' + i % 12);
            char other = (char) ('a' + (i + 1) % 12);
            text.append("layer l").append((char) ('a' + i)).append(" of h").append(owner).append(":900 over 9 500 to h")
                    .append(other).append(" again 9 at 5;");
        }
        return text.toString();
    }

    private static long allocated(CoverHouses x) {
        com.sun.management.ThreadMXBean threads = (com.sun.management.ThreadMXBean) ManagementFactory.getThreadMXBean();
        long id = Thread.currentThread().getId();
        long[][] packed = new long[64][];
        String wording = wording();
        for (int i = 0; i < packed.length; i++) {
            packed[i] = Signs.packed(wording, 24 * i);
        }
        threads.getThreadAllocatedBytes(id);
        long before = threads.getThreadAllocatedBytes(id);
        for (long[] abc : packed) {
            x.feed(abc[0], abc[1], abc[2]);
        }
        x.wording();
        for (int i = 0; i < 20; i++) {
            x.leave(i % 6, i % 2 == 0);
            askAll(x);
        }
        return threads.getThreadAllocatedBytes(id) - before;
    }

    private static void askAll(CoverHouses x) {
        for (int i = 0; i < 12; i++) {
            x.events();
            x.event(i, i % 5);
            x.eventOf(i);
            x.gross(i, i, i % 3);
            x.treaty(i, i, i % 5);
            x.left(i);
            x.commute(i, i);
            x.owed(i, (i + 1) % 12);
            x.bears(i);
            x.wants(i);
            x.worst(i, 1 + i % 6);
            x.purse(i, i);
            x.clears(i, i % 5);
            x.known(i, i, i % 10);
            x.factor(i, i % 9);
            x.foretold(i, i);
            x.look(i, i % 7);
            x.count(i);
            x.word(i, 100 + i);
            x.split(i, i % 2 == 0);
            x.view(LAST_DAY - i % 2);
            x.loss(i, i, 0, 0, 0, 1);
            x.days(0);
        }
    }
}
