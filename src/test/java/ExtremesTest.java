import java.lang.reflect.InvocationTargetException;
import java.lang.reflect.Method;
import java.util.Arrays;
import java.util.Comparator;
import java.util.NoSuchElementException;
import java.util.Random;

/** Any arguments in any state: only the exceptions of the document, only where it names them. */
public final class ExtremesTest {
    private static final int[] NUMBERS = {Integer.MIN_VALUE, Integer.MAX_VALUE, -1, 0, 1, 2, 3, 4, 5, 6, 7, 9, 11, 12,
        13, 23, 24, 59, 60, 100, 365, 999, 1000, 1001, 9999, 10000, 100000, 100001, 239999, 240000, 999999, 1000000,
        99999999, 100000000};

    private ExtremesTest() {
    }

    public static void main(String[] args) throws IllegalAccessException {
        Method[] face = Arrays.stream(CoverHouses.class.getDeclaredMethods())
                .filter(m -> java.lang.reflect.Modifier.isPublic(m.getModifiers()))
                .sorted(Comparator.comparing(Method::getName)).toArray(Method[]::new);
        int wrong = 0;
        for (int seed = 0; seed < 300 && wrong < 5; seed++) {
            Random random = new Random(seed);
            CoverHouses x = new CoverHouses();
            for (int i = 0; i < 400 && wrong < 5; i++) {
                if (i % 100 == 0) {
                    Signs.wording(x, new RandomWording(random, false).text());
                }
                Method m = face[random.nextInt(face.length)];
                wrong += call(x, m, arguments(m, random)) ? 0 : 1;
            }
        }
        System.out.println("ExtremesTest: " + wrong + " wrong");
        if (wrong > 0) {
            System.exit(1);
        }
    }

    private static boolean call(CoverHouses x, Method m, Object[] arguments) throws IllegalAccessException {
        try {
            m.invoke(x, arguments);
            return true;
        } catch (InvocationTargetException e) {
            boolean named = Arrays.asList(m.getExceptionTypes()).contains(NoSuchElementException.class);
            boolean due = named && e.getCause().getClass() == NoSuchElementException.class;
            if (!due) {
                System.out.println(m.getName() + Arrays.toString(arguments) + " threw " + e.getCause());
            }
            return due;
        }
    }

    private static Object[] arguments(Method m, Random random) {
        Object[] arguments = new Object[m.getParameterCount()];
        for (int i = 0; i < arguments.length; i++) {
            Class<?> type = m.getParameterTypes()[i];
            if (type == boolean.class) {
                arguments[i] = random.nextBoolean();
            } else if (type == long.class) {
                arguments[i] = random.nextLong();
            } else {
                arguments[i] = random.nextInt(3) == 0 ? NUMBERS[random.nextInt(NUMBERS.length)] : random.nextInt(4);
            }
        }
        return arguments;
    }
}
