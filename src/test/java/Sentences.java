import java.io.IOException;
import java.nio.file.Files;
import java.nio.file.Path;
import java.util.LinkedHashMap;
import java.util.Map;
import java.util.regex.Matcher;
import java.util.regex.Pattern;

/**
 * The document's sentences. A test of a boundary names its promise and quotes its sentence; what it quotes must stand in the
 * document, and at the end no part of the terms and the promises may be left that no test has quoted.
 */
final class Sentences {
    private static final Path DOCUMENT = Path.of("../shared/DOC.md");

    private final Map<String, String> texts = new LinkedHashMap<>();
    private final Map<String, boolean[]> quoted = new LinkedHashMap<>();

    Sentences() throws IOException {
        String document = Files.readString(DOCUMENT);
        Matcher heads = Pattern.compile("(?m)^## (.*)$").matcher(document);
        int from = 0;
        String name = "";
        while (heads.find()) {
            keep(name, document.substring(from, heads.start()));
            name = heads.group(1).replaceAll(":.*", "");
            from = heads.end();
        }
        keep(name, document.substring(from));
    }

    private void keep(String section, String text) {
        if (section.equals("Terms") || section.startsWith("Promise ") || section.equals("What it is")) {
            String plain = plain(text);
            texts.put(section, plain);
            quoted.put(section, new boolean[plain.length()]);
        }
    }

    /** Without a promise's signature (FaceTest has it), fences, the marks of parts, and the breaks of lines. */
    private static String plain(String text) {
        return text.replaceAll("```\\w*", " ").replaceAll("`[^`]*`:", " ").replaceAll("==== \\d\\.", " ").replaceAll("\\s+", " ").trim();
    }

    /** What is checked from now on is about this sentence of this section. */
    void about(String section, String sentence) {
        Checks.heading(section + ", '" + sentence + "': ");
        String text = texts.getOrDefault(section, "");
        int at = text.indexOf(sentence);
        if (at < 0) {
            Checks.wrong("the document does not say this");
            return;
        }
        if (text.indexOf(sentence, at + 1) >= 0) {
            Checks.wrong("the document says this twice: quote more of it");
        }
        boolean[] marks = quoted.get(section);
        for (int i = at; i < at + sentence.length(); i++) {
            marks[i] = true;
        }
    }

    void about(int promise, String sentence) {
        about("Promise " + promise, sentence);
    }

    void noneIsLeft() {
        Checks.heading("");
        for (int promise = 1; promise <= 46; promise++) {
            Checks.due("the document has promise " + promise, texts.containsKey("Promise " + promise) ? 1 : 0, 1);
        }
        for (String section : texts.keySet()) {
            if (!section.equals("What it is")) {
                noneIsLeftOf(section);
            }
        }
    }

    private void noneIsLeftOf(String section) {
        String text = texts.get(section);
        boolean[] marks = quoted.get(section);
        StringBuilder left = new StringBuilder();
        for (int i = 0; i <= marks.length; i++) {
            if (i < marks.length && !marks[i]) {
                left.append(text.charAt(i));
            } else {
                if (left.toString().matches(".*[A-Za-z0-9].*")) {
                    Checks.wrong(section + " has a sentence without a test: " + left);
                }
                left.setLength(0);
            }
        }
    }
}
