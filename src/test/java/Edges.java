import java.io.IOException;
import java.lang.reflect.InvocationTargetException;
import java.lang.reflect.Method;
import java.util.Arrays;
import java.util.Comparator;
import java.util.NoSuchElementException;
import java.util.function.IntSupplier;

/** Runs all tests of a class that tell their sentence; what the tests use to make objects and to compare. */
final class Edges {
    static final String ABC = "house a;house b;house c;";
    static final int NONE = -1;

    private static String running = "";
    private static int checks = 0;
    private static int wrong = 0;

    private Edges() {
    }

    static void runAll(Class<?> tests) throws IOException, ReflectiveOperationException {
        Doc doc = Doc.read();
        Method[] methods = tests.getDeclaredMethods();
        Arrays.sort(methods, Comparator.comparing(Method::getName));
        int run = 0;
        for (Method test : methods) {
            Says says = test.getAnnotation(Says.class);
            if (says != null) {
                running = tests.getSimpleName() + "." + test.getName() + " (" + says.in() + ": " + says.text() + ")";
                need("the document says so", doc.says(says.in(), says.text()));
                runOne(test);
                run++;
            }
        }
        System.out.println(tests.getSimpleName() + ": " + run + " tests, " + checks + " checks, " + wrong + " wrong");
        if (wrong > 0 || run == 0) {
            System.exit(1);
        }
    }

    private static void runOne(Method test) throws ReflectiveOperationException {
        test.setAccessible(true);
        int before = checks;
        try {
            test.invoke(null);
        } catch (InvocationTargetException e) {
            need("nothing is thrown, but " + e.getCause(), false);
        }
        need("something is compared", checks > before);
    }

    static void due(String what, long got, long want) {
        checks++;
        if (got != want) {
            wrong++;
            System.out.println(running + ": " + what + " answered " + got + ", due is " + want);
        }
    }

    static void need(String what, boolean holds) {
        checks++;
        if (!holds) {
            wrong++;
            System.out.println(running + ": not so: " + what);
        }
    }

    static void refused(String what, boolean answer) {
        need(what + " is refused", !answer);
    }

    static void taken(String what, boolean answer) {
        need(what + " is taken", answer);
    }

    /** Exactly the exception that the document names, and no class below or above it. */
    static void throwsNoSuchElement(String what, IntSupplier call) {
        String came;
        try {
            came = "answered " + call.getAsInt();
        } catch (RuntimeException e) {
            came = "threw " + e.getClass().getName();
        }
        need(what + " throws, but it " + came, came.equals("threw " + NoSuchElementException.class.getName()));
    }

    /** A new object with a wording in force. */
    static CoverHouses told(String wording) {
        CoverHouses x = new CoverHouses();
        due(wording, Signs.wording(x, wording), 0);
        return x;
    }

    /** The same with a DAY as NOW. */
    static CoverHouses told(String wording, int day) {
        CoverHouses x = told(wording);
        pass(x, day);
        return x;
    }

    static CoverHouses newOn(int day) {
        CoverHouses x = new CoverHouses();
        pass(x, day);
        return x;
    }

    static void pass(CoverHouses x, int days) {
        int left = days;
        while (left > 0) {
            int some = Math.min(1000, left);
            x.days(some);
            left -= some;
        }
    }

    static String houses(int n) {
        StringBuilder text = new StringBuilder();
        for (int i = 0; i < n; i++) {
            text.append("house h").append((char) ('a' + i)).append(';');
        }
        return text.toString();
    }

    static void stands(String text) {
        due(text, Signs.wording(new CoverHouses(), text), 0);
    }

    /** The FAULT of a text at the place of its sign |, which is not fed. */
    static void faultAtBar(int kind, String text) {
        int place = text.indexOf('|');
        String fed = text.substring(0, place) + text.substring(place + 1);
        due(text, Signs.wording(new CoverHouses(), fed), kind + 16 * place);
    }

    static String repeated(String text, int times) {
        StringBuilder all = new StringBuilder();
        for (int i = 0; i < times; i++) {
            all.append(text);
        }
        return all.toString();
    }
}
