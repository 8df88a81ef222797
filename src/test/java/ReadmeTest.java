import java.io.IOException;
import java.lang.reflect.Method;
import java.net.URL;
import java.net.URLClassLoader;
import java.nio.file.Files;
import java.nio.file.Path;
import java.nio.file.Paths;
import java.util.regex.Matcher;
import java.util.regex.Pattern;
import javax.tools.ToolProvider;

/** README's example compiles and answers what it says; README names every call, and every test there is. */
public final class ReadmeTest {
    private static final Pattern ANSWERED = Pattern.compile("(.*); // -> (\\S+).*");
    private static final int FEWEST_ANSWERS = 20;

    private static int wrong = 0;

    private ReadmeTest() {
    }

    public static void main(String[] args) throws IOException, ReflectiveOperationException {
        String readme = new String(Files.readAllBytes(Paths.get("README.md")));
        int from = readme.indexOf("```java") + "```java".length();
        String example = readme.substring(from, readme.indexOf("```", from));
        int answers = run(example);
        need(answers >= FEWEST_ANSWERS, "the example has " + answers + " answers");
        for (Method call : CoverHouses.class.getDeclaredMethods()) {
            boolean isPublic = java.lang.reflect.Modifier.isPublic(call.getModifiers());
            need(!isPublic || readme.contains("`" + call.getName() + "`"), "README names " + call.getName());
        }
        for (String test : Paths.get("src/test/java").toFile().list()) {
            String name = test.replace(".java", "");
            boolean isOneOfSix = name.matches("Terms[2-5]EdgesTest");
            need(!name.endsWith("Test") || isOneOfSix || readme.contains("`" + name), "README names " + name);
        }
        System.out.println("ReadmeTest: " + answers + " answers, " + wrong + " wrong");
        if (wrong > 0) {
            System.exit(1);
        }
    }

    static void need(boolean holds, String what) {
        if (!holds) {
            wrong++;
            System.out.println("not so: " + what);
        }
    }

    /** Called by the example itself. */
    public static void due(String call, Object got, String want) {
        need(String.valueOf(got).equals(want), call + " answers " + got + ", README says " + want);
    }

    private static int run(String example) throws IOException, ReflectiveOperationException {
        StringBuilder body = new StringBuilder("public class Example {\n    public static void go() {\n");
        int answers = 0;
        for (String line : example.split("\n")) {
            Matcher m = ANSWERED.matcher(line);
            boolean isAnswered = m.matches();
            answers += isAnswered ? 1 : 0;
            body.append(isAnswered ? "ReadmeTest.due(\"" + m.group(1).replace("\"", "\\\"") + "\", " + m.group(1) + ", \""
                    + m.group(2) + "\");" : line).append('\n');
        }
        Path folder = Files.createTempDirectory("readme");
        Path source = folder.resolve("Example.java");
        Files.write(source, body.append("    }\n}\n").toString().getBytes());
        int failed = ToolProvider.getSystemJavaCompiler().run(null, null, null, "-proc:none", "-cp",
                System.getProperty("java.class.path"), "-d", folder.toString(), source.toString());
        need(failed == 0, "the example compiles");
        if (failed == 0) {
            try (URLClassLoader loader = new URLClassLoader(new URL[] {folder.toUri().toURL()})) {
                loader.loadClass("Example").getMethod("go").invoke(null);
            }
        }
        Files.deleteIfExists(folder.resolve("Example.class"));
        Files.delete(source);
        Files.delete(folder);
        return answers;
    }
}
