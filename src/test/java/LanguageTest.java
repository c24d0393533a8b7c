import java.io.IOException;
import java.nio.file.Files;
import java.nio.file.Path;
import java.util.List;
import java.util.regex.Matcher;
import java.util.regex.Pattern;

/** Looks through the program for what the rules of the language forbid, as far as its text tells. */
public final class LanguageTest {
    private static final String[] FORBIDDEN = {
        "\\bthrow\\b", "\\btry\\b", "\\bcatch\\b", "\\bsynchronized\\b", "\\bassert\\b", "->", "::", "\\bpackage\\b",
        "\\binstanceof\\b", "\\b\\w+Exact\\b", "\\bequals\\b", "\\bhashCode\\b", "\\btoString\\b", "\\bRandom\\b",
        "\\bThread\\b", "\\bcurrentTimeMillis\\b", "\\bnanoTime\\b", "\\bgetenv\\b", "\\bout\\b", "\\bstatic \\{",
        "\\b(double|float)\\b", "\"", "\\bprotected\\b"};
    private static final int MOST_LINES = 60;
    private static final int MOST_CLASSES = 12;

    private LanguageTest() {
    }

    public static void main(String[] args) throws IOException {
        Due due = new Due("LanguageTest");
        String source = Files.readString(Path.of("src/main/java/OrphanChain.java"));
        String code = source.replaceAll("(?s)/\\*.*?\\*/", "").replaceAll("//[^\n]*", "");
        for (String word : FORBIDDEN) {
            due.holds("there is no " + word, !Pattern.compile(word).matcher(code).find());
        }
        due.same("imports", found(code, "import [^;]*;").toString(), "[import java.util.Arrays;]");
        due.holds("classes", found(code, "\\bclass \\w+").size() <= MOST_CLASSES);
        due.is("static fields that are not final", found(code, "static (?!final)[\\w\\[\\]]+ \\w+( =|;)").size(), 0);
        due.holds("all signs are 1 to 127", source.chars().allMatch(sign -> sign < 128));
        names(due, code);
        lengths(due, code);
        news(due, code);
        due.end();
    }

    private static List<String> found(String code, String pattern) {
        return Pattern.compile(pattern).matcher(code).results().map(result -> result.group()).toList();
    }

    private static void names(Due due, String code) {
        List<String> face = Pattern.compile("\n    public int (\\w+)\\(").matcher(code).results()
                .map(result -> result.group(1)).toList();
        due.is("methods of the face", face.size(), 27);
        Matcher methods = Pattern.compile("\n\\s+(?!public)(?:private )?(?:static )?(?:int|void|boolean) (\\w+)\\(")
                .matcher(code);
        while (methods.find()) {
            due.holds(methods.group(1) + " is no name of the face", !face.contains(methods.group(1)));
        }
    }

    private static void lengths(Due due, String code) {
        List<String> lines = List.of(code.split("\n"));
        Pattern opening = Pattern.compile("( +)(?!if |for |while |switch |\\} )\\S.*\\) \\{");
        for (int line = 0; line < lines.size(); line++) {
            Matcher method = opening.matcher(lines.get(line));
            if (method.matches()) {
                int length = lines.subList(line, lines.size()).indexOf(method.group(1) + "}");
                due.holds("short: " + lines.get(line).trim(), length > 0 && length < MOST_LINES);
            }
        }
    }

    /** What is made is made for fields alone, so that the calls make nothing. */
    private static void news(Due due, String code) {
        for (String line : code.split("\n")) {
            due.holds("made for a field: " + line.trim(), !line.contains("new ")
                    || line.matches("\\s+private final .* = new .*;") || line.matches("        \\w+ = new \\w+\\(\\);"));
        }
    }
}
