import java.io.IOException;
import java.nio.file.Files;
import java.nio.file.Path;
import java.util.List;
import java.util.regex.Matcher;
import java.util.regex.Pattern;

/** Those rules of LANGUAGE.md that can be read off the source's lines. */
public final class LanguageTest {
    private static final String[] BANNED = {
        "->", "::", "\\bfinally\\b", "\\bsynchronized\\b", "\\bassert\\b", "\\bcatch\\b", "\\btry\\b", "\\bpackage\\b", "\\bnative\\b",
        "\\bMath\\.(?!max\\b|min\\b)", "Exact\\b", "\\bSystem\\.(?!arraycopy\\b)", "\\bArrays\\.(?!fill\\b|copyOf\\b|copyOfRange\\b)",
        "\\bInteger\\.(?!bitCount\\b)", "\\bdouble\\b", "\\bfloat\\b", "\\bObject\\b", "\"\\s*\\+", "\\+\\s*\"",
        "while \\(true\\)", "for \\(;;\\)", "^\\s*static \\{", "\\bprotected\\b",
        "throw new (?!(IllegalArgumentException|NoSuchElementException)\\(\\))",
    };

    public static void main(String[] args) throws IOException {
        List<String> lines = Files.readAllLines(Path.of("src/main/java/StillYear.java"));
        for (int i = 0; i < lines.size(); i++) {
            String line = lines.get(i);
            String code = line.replaceAll("//.*|^\\s*/?\\*.*", "");
            for (String banned : BANNED) {
                if (Pattern.compile(banned).matcher(code).find()) {
                    Checks.wrong("line " + (i + 1) + " has " + banned + ": " + line);
                }
            }
            if (!line.matches("[\\x20-\\x7e]*")) {
                Checks.wrong("line " + (i + 1) + " has signs that are not plain");
            }
            if (code.startsWith("import ") && !code.matches("import java\\.util\\.(Arrays|NoSuchElementException|ArrayList|List);")) {
                Checks.wrong("line " + (i + 1) + " imports what is not listed: " + line);
            }
        }
        lengths(lines);
        Checks.end("LanguageTest");
    }

    /** A method begins with a line that ends in ") {" or in a throws clause, and ends at a brace of the same depth. */
    private static void lengths(List<String> lines) {
        Pattern head = Pattern.compile("^( +)(public|private|static|boolean|int|long|void|[A-Z]\\w*)\\b.*\\(.*\\).*\\{$");
        for (int i = 0; i < lines.size(); i++) {
            Matcher m = head.matcher(lines.get(i));
            if (m.matches()) {
                int end = i;
                while (end < lines.size() && !lines.get(end).equals(m.group(1) + "}")) {
                    end++;
                }
                Checks.due("the method of line " + (i + 1) + " has at most sixty lines", end - i < 60 ? 1 : 0, 1);
            }
        }
    }
}
