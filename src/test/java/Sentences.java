import java.io.IOException;
import java.nio.file.Files;
import java.nio.file.Path;
import java.util.ArrayList;
import java.util.LinkedHashMap;
import java.util.List;
import java.util.Map;

/** The sentences of the document that the edge tests name: each must stand in the section that it is said to be of. */
final class Sentences {
    private static final Path DOCUMENT = Path.of("../shared/DOC.md");
    private static final int TERMS = 5;
    private static final int PROMISES = 27;

    private static final Map<String, String> SECTIONS = new LinkedHashMap<>();
    private static final Map<String, List<String>> NAMED = new LinkedHashMap<>();

    private Sentences() {
    }

    static void read() throws IOException {
        String document = plain(Files.readString(DOCUMENT));
        for (int i = 1; i <= TERMS; i++) {
            SECTIONS.put("Terms " + i, between(document, "==== " + i + ". ", i < TERMS ? "==== " : "## "));
        }
        for (int i = 1; i <= PROMISES; i++) {
            SECTIONS.put("Promise " + i, between(document, "## Promise " + i + ": ", "## "));
        }
        SECTIONS.keySet().forEach(section -> NAMED.put(section, new ArrayList<>()));
    }

    private static String plain(String text) {
        return text.replace("```text", " ").replace("```", " ").replaceAll("\\s+", " ");
    }

    private static String between(String text, String from, String to) {
        int start = text.indexOf(from);
        if (start < 0) {
            return "";
        }
        int end = text.indexOf(to, start + from.length());
        return text.substring(start, end < 0 ? text.length() : end);
    }

    static void term(int number, String sentence) {
        name("Terms " + number, sentence);
    }

    static void promise(int number, String sentence) {
        name("Promise " + number, sentence);
    }

    private static void name(String section, String sentence) {
        Kit.about(section + ", \"" + sentence + "\"");
        NAMED.get(section).add(sentence);
        if (!SECTIONS.get(section).contains(sentence)) {
            Kit.due("the document's words", 0, 1);
        }
    }

    /** Every section of the document has a sentence that is tested. */
    static void allSections() {
        Kit.about("");
        NAMED.forEach((section, named) -> Kit.due("no sentence of " + section, named.isEmpty(), false));
    }

    /** The document with the words that no test names, for whoever adds tests. */
    static void printRest() {
        NAMED.forEach((section, named) -> {
            String rest = SECTIONS.get(section);
            for (String sentence : named) {
                rest = rest.replace(sentence, " ~ ");
            }
            System.out.println(rest);
        });
    }
}
