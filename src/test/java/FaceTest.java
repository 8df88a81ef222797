import java.io.IOException;
import java.lang.reflect.Field;
import java.lang.reflect.Method;
import java.lang.reflect.Modifier;
import java.nio.charset.StandardCharsets;
import java.nio.file.Files;
import java.nio.file.Paths;
import java.util.Arrays;
import java.util.List;
import java.util.Set;
import java.util.TreeSet;
import java.util.regex.Matcher;
import java.util.regex.Pattern;

/** The public face is the document's and no more; the source keeps to rules of LANGUAGE.md that a text search can see. */
public final class FaceTest {
    private static final String DOCUMENT = "../shared/DOC.md";
    private static final String[] FACE = {
        "int days(int)", "boolean view(int)", "int feed(long,long,long)", "int wording()",
        "int loss(int,int,int,int,int,int)", "boolean word(int,int)", "boolean split(int,boolean)",
        "boolean leave(int,boolean)", "int events()", "int event(int,int)", "int eventOf(int)",
        "int gross(int,int,int)", "int treaty(int,int,int)", "int left(int)", "boolean commute(int,int)",
        "int owed(int,int)", "int bears(int)", "int wants(int)", "int worst(int,int)", "boolean purse(int,int)",
        "int clears(int,int)", "int known(int,int,int)", "int factor(int,int)", "int foretold(int,int)",
        "int look(int,int)", "int count(int)"};
    private static final String[] NOT_ALLOWED = {
        "\\btry\\b", "\\bcatch\\b", "\\bfinally\\b", "\\bsynchronized\\b", "\\bassert\\b", "->", "::", "Exact\\(",
        "\\bprotected\\b", "\\[\\]\\[\\]\\[\\]", "\\bMath\\.random", "\\bSystem\\.(?!arraycopy)", "\" \\+", "\\+ \"",
        "\\bdouble\\b", "\\bfloat\\b", "Arrays\\.(?!fill|copyOf)", "\\bpackage\\b", "\\bstatic \\{"};

    private static int wrong = 0;

    private FaceTest() {
    }

    public static void main(String[] args) throws IOException {
        face();
        members();
        String source = new String(Files.readAllBytes(Paths.get("src/main/java/CoverHouses.java")));
        source(source);
        if (Files.exists(Paths.get(DOCUMENT))) {
            document(new String(Files.readAllBytes(Paths.get(DOCUMENT)), StandardCharsets.UTF_8), source);
        }
        System.out.println("FaceTest: " + wrong + " wrong");
        if (wrong > 0) {
            System.exit(1);
        }
    }

    private static void need(boolean holds, String what) {
        if (!holds) {
            wrong++;
            System.out.println("face: " + what);
        }
    }

    private static void face() {
        Set<String> due = new TreeSet<>(Arrays.asList(FACE));
        Set<String> got = new TreeSet<>();
        Set<String> names = new TreeSet<>();
        for (Method m : CoverHouses.class.getDeclaredMethods()) {
            if (Modifier.isPublic(m.getModifiers())) {
                got.add(m.getReturnType() + " " + m.getName() + signature(m));
                names.add(m.getName());
            }
        }
        need(got.equals(due), "methods are " + got);
        need(Modifier.isFinal(CoverHouses.class.getModifiers()), "the class is final");
        need(CoverHouses.class.getConstructors().length == 1, "one constructor");
        need(CoverHouses.class.getFields().length == 1, "one constant");
        for (Class<?> c : allClasses()) {
            for (Method m : c.getDeclaredMethods()) {
                boolean ofFace = c == CoverHouses.class && Modifier.isPublic(m.getModifiers());
                need(ofFace || !names.contains(m.getName()), c + " has a method named " + m.getName());
                need(m.getParameterCount() <= 7, m + " takes too many");
            }
        }
    }

    /** Each line of the document's face stands in the source, a body in place of its semicolon, and none else is public. */
    private static void document(String text, String source) {
        int from = text.indexOf("```java") + "```java".length();
        Set<String> due = new TreeSet<>();
        for (String line : text.substring(from, text.indexOf("```", from)).split("\n")) {
            String told = line.trim();
            if (told.startsWith("public") && !told.endsWith("{")) {
                due.add(told.contains("=") ? told : told.replace(";", " {"));
            } else {
                need(source.contains(told), "the source has " + told);
            }
        }
        Set<String> got = new TreeSet<>();
        Matcher m = Pattern.compile("(?m)^ {4}(public .*)$").matcher(source);
        while (m.find()) {
            got.add(m.group(1));
        }
        need(due.size() == FACE.length + 2, "the document tells " + due.size() + " lines");
        need(got.equals(due), "the public lines are " + got);
    }

    private static String signature(Method m) {
        StringBuilder text = new StringBuilder("(");
        for (Class<?> c : m.getParameterTypes()) {
            text.append(text.length() > 1 ? "," : "").append(c.getSimpleName());
        }
        return text.append(')').toString();
    }

    private static List<Class<?>> allClasses() {
        List<Class<?>> all = new java.util.ArrayList<>(Arrays.asList(CoverHouses.class.getDeclaredClasses()));
        all.add(CoverHouses.class);
        return all;
    }

    private static void members() {
        for (Method m : CoverHouses.class.getDeclaredMethods()) {
            int flags = m.getModifiers();
            need(Modifier.isPublic(flags) || Modifier.isPrivate(flags), m + " is open");
        }
        for (Class<?> c : allClasses()) {
            int own = 0;
            for (Field f : c.getDeclaredFields()) {
                int flags = f.getModifiers();
                need(!Modifier.isStatic(flags) || Modifier.isFinal(flags), f + " is static, not final");
                need(c != CoverHouses.class || Modifier.isPrivate(flags) || f.getName().equals("NONE"), f + " is open");
                own += Modifier.isStatic(flags) ? 0 : 1;
            }
            need(own <= 20, c + " has " + own + " fields");
            need(c == CoverHouses.class || Modifier.isStatic(c.getModifiers()), c + " is static");
        }
        need(allClasses().size() <= 12, "classes: " + allClasses().size());
    }

    private static void source(String text) {
        String code = text.replaceAll("//[^\n]*", "").replaceAll("(?s)/\\*.*?\\*/", "");
        for (String not : NOT_ALLOWED) {
            Matcher m = Pattern.compile(not).matcher(code);
            need(!m.find(), "the source has " + not);
        }
        String[] lines = text.split("\n");
        int begun = 0;
        for (int i = 0; i < lines.length; i++) {
            if (lines[i].matches(" {4}( {4})?[a-zA-Z].*\\) .*\\{")) {
                begun = i;
            }
            if (lines[i].matches(" {4}( {4})?\\}")) {
                need(i - begun < 60 || begun == 0 || lines[i].length() == 5 && lines[begun].startsWith("        "),
                        "too long a method at line " + (begun + 1));
            }
        }
    }
}
