import java.io.IOException;
import java.nio.charset.StandardCharsets;
import java.nio.file.Files;
import java.nio.file.Paths;
import java.util.LinkedHashMap;
import java.util.Map;

/** ../shared/DOC.md, cut into its parts (but for its face: FaceTest); blanks and ends of lines are one blank each. */
final class Doc {
    private static final int PARTS_OF_TERMS = 6;
    private static final int PROMISES = 27;
    private static final String NOT_PROMISED = "## Not promised";
    private static final String PLACE = "../shared/DOC.md";

    private final Map<String, String> sections = new LinkedHashMap<>();

    private Doc() {
    }

    private Doc(String text) {
        sections.put("What it is", between(text, "## What it is ", "## The public face"));
        sections.put("The constants", between(text, "The constants:", "## Promise 1:"));
        sections.put("Not promised", text.substring(text.indexOf(NOT_PROMISED) + NOT_PROMISED.length()).trim());
        for (int i = 1; i <= PARTS_OF_TERMS; i++) {
            String from = i == 1 ? "## Terms " : "==== " + i + ". ";
            String to = i == PARTS_OF_TERMS ? "The constants:" : "==== " + (i + 1) + ". ";
            sections.put("Terms " + i, between(text, from, to));
        }
        for (int i = 1; i <= PROMISES; i++) {
            String to = i == PROMISES ? "## Not promised" : "## Promise " + (i + 1) + ":";
            String whole = between(text, "## Promise " + i + ":", to);
            // The call itself stands between two ` and a colon.
            sections.put("Promise " + i, whole.substring(whole.indexOf("`:") + 2).trim());
        }
    }

    /** Without the document the tests run all the same, and their sentences are believed. */
    static Doc read() throws IOException {
        if (!Files.exists(Paths.get(PLACE))) {
            System.out.println("there is no " + PLACE + ": sentences are not looked up in it");
            return new Doc();
        }
        byte[] bytes = Files.readAllBytes(Paths.get(PLACE));
        return new Doc(plain(new String(bytes, StandardCharsets.UTF_8).replace("```text", "").replace("```", "")));
    }

    static String plain(String text) {
        return text.replaceAll("\\s+", " ").trim();
    }

    private static String between(String text, String from, String to) {
        int begin = text.indexOf(from);
        int end = text.indexOf(to, begin);
        if (begin < 0 || end < 0) {
            throw new IllegalStateException("the document has no " + from + " .. " + to);
        }
        return text.substring(begin + from.length(), end).trim();
    }

    boolean says(String in, String text) {
        return sections.isEmpty() || sections.containsKey(in) && sections.get(in).contains(plain(text));
    }

    Map<String, String> all() {
        return sections;
    }
}
