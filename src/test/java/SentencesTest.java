import java.io.File;
import java.io.IOException;
import java.lang.reflect.Method;
import java.util.Arrays;
import java.util.Map;

/** Every word of the document (of its face: FaceTest) stands in a sentence that some test tells as its own. */
public final class SentencesTest {
    private static final String TESTS = "src/test/java";

    private SentencesTest() {
    }

    public static void main(String[] args) throws IOException, ReflectiveOperationException {
        Doc doc = Doc.read();
        int uncovered = 0;
        for (Map.Entry<String, String> section : doc.all().entrySet()) {
            boolean[] covered = covered(section.getKey(), section.getValue());
            uncovered += tellGaps(section.getKey(), section.getValue(), covered);
        }
        System.out.println("SentencesTest: " + doc.all().size() + " sections, " + uncovered + " gaps");
        if (uncovered > 0) {
            System.exit(1);
        }
    }

    private static boolean[] covered(String in, String text) throws ReflectiveOperationException {
        boolean[] covered = new boolean[text.length()];
        File[] files = new File(TESTS).listFiles((folder, name) -> name.endsWith("EdgesTest.java"));
        for (File file : files) {
            Class<?> tests = Class.forName(file.getName().replace(".java", ""));
            for (Method test : tests.getDeclaredMethods()) {
                Says says = test.getAnnotation(Says.class);
                if (says != null && says.in().equals(in)) {
                    cover(covered, text, Doc.plain(says.text()));
                }
            }
        }
        return covered;
    }

    private static void cover(boolean[] covered, String text, String sentence) {
        int at = text.indexOf(sentence);
        while (at >= 0) {
            Arrays.fill(covered, at, at + sentence.length(), true);
            at = text.indexOf(sentence, at + 1);
        }
    }

    /** Blanks and signs alone are no gap. */
    private static int tellGaps(String in, String text, boolean[] covered) {
        int gaps = 0;
        int from = 0;
        while (from < text.length()) {
            int to = from;
            while (to < text.length() && covered[to] == covered[from]) {
                to++;
            }
            String piece = text.substring(from, to);
            if (!covered[from] && piece.matches(".*[a-zA-Z0-9<=].*")) {
                gaps++;
                System.out.println("no test for: " + in + ": " + piece);
            }
            from = to;
        }
        return gaps;
    }
}
