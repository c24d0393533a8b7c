import java.io.IOException;
import java.nio.file.Files;
import java.nio.file.Path;
import java.util.ArrayList;
import java.util.List;
import java.util.Map;
import java.util.TreeSet;
import java.util.regex.Matcher;
import java.util.regex.Pattern;
import java.util.stream.Stream;

/** README.md's examples: each call that it shows answers as it says there. */
public final class ReadmeTest {
    private static final Pattern BLOCK = Pattern.compile("(?s)```java\n(.*?)```");
    private static final String NEW_OBJECT = "OrphanChain chain = new OrphanChain();";
    /** A call, and behind it a comment that begins with the answer. */
    private static final Pattern CALL = Pattern.compile(
            "chain\\.(\\w+)\\((.*?)\\);\\s+// (-?\\d+|[A-Z_]+)([,:.;]? .*)?");
    private static final Pattern ARGUMENT = Pattern.compile("'(.)'|-?\\d+");
    private static final Pattern SENTENCE = Pattern.compile(
            "(?s)bounds\\.section\\(\"(.*?)\"\\);\nbounds\\.sentence\\(\"(.*?)\", \"\"\"\n(.*?)\"\"\"\\);\n");
    private static final Pattern TABLE_ROW = Pattern.compile("(?m)^\\| `(\\w+Test)` \\|");
    private static final Map<String, Integer> NAMES = Map.of(
            "INVALID_ARGUMENT", OrphanChain.INVALID_ARGUMENT, "ILLEGAL_STATE", OrphanChain.ILLEGAL_STATE,
            "CAPACITY_EXCEEDED", OrphanChain.CAPACITY_EXCEEDED, "NONE", OrphanChain.NONE);

    private final Due due;
    private final TreeSet<String> shown = new TreeSet<>();

    private ReadmeTest(Due due) {
        this.due = due;
    }

    public static void main(String[] args) throws IOException {
        Due due = new Due("ReadmeTest");
        ReadmeTest test = new ReadmeTest(due);
        String readme = Files.readString(Path.of("README.md"));
        Matcher blocks = BLOCK.matcher(readme);
        while (blocks.find()) {
            test.block(blocks.group(1));
        }
        due.at("the examples");
        due.same("the methods that they show", test.shown.toString(),
                new TreeSet<>(Call.ARGUMENTS.keySet()).toString());
        test.table(readme);
        due.end();
    }

    private void block(String block) throws IOException {
        Matcher sentence = SENTENCE.matcher(block);
        if (sentence.matches()) {
            Bounds bounds = new Bounds(due);
            bounds.section(sentence.group(1));
            bounds.sentence(sentence.group(2), sentence.group(3));
            return;
        }
        OrphanChain chain = null;
        for (String line : block.split("\n")) {
            due.at("the line \"" + line + "\"");
            if (line.equals(NEW_OBJECT)) {
                chain = new OrphanChain();
            } else if (!line.isBlank()) {
                call(line, chain);
            }
        }
    }

    private void call(String line, OrphanChain chain) {
        Matcher call = CALL.matcher(line);
        boolean read = chain != null && call.matches();
        due.holds("it is a call of an object, with its answer", read);
        if (!read) {
            return;
        }
        String name = call.group(1);
        int[] args = arguments(call.group(2));
        String answer = call.group(3);
        Integer want = NAMES.containsKey(answer) ? NAMES.get(answer) : number(answer);
        boolean known = args.length == Call.ARGUMENTS.getOrDefault(name, -1) && want != null;
        due.holds("there are such a method and such an answer", known);
        if (known) {
            due.is(name, new Call(name, args).answer(chain), want);
            shown.add(name);
        }
    }

    private static Integer number(String word) {
        return word.matches("-?\\d+") ? Integer.valueOf(word) : null;
    }

    private int[] arguments(String words) {
        List<Integer> args = new ArrayList<>();
        Matcher argument = ARGUMENT.matcher(words);
        while (argument.find()) {
            String sign = argument.group(1);
            args.add(sign == null ? Integer.parseInt(argument.group()) : sign.charAt(0));
        }
        due.same("what is no argument", words.replaceAll(ARGUMENT.pattern(), "").replace(", ", ""), "");
        return args.stream().mapToInt(Integer::intValue).toArray();
    }

    /** The table tells of all tests that .ci/run runs. */
    private void table(String readme) throws IOException {
        due.at("the table");
        TreeSet<String> told = new TreeSet<>();
        Matcher rows = TABLE_ROW.matcher(readme);
        while (rows.find()) {
            told.add(rows.group(1));
        }
        try (Stream<Path> files = Files.list(Path.of("src/test/java"))) {
            TreeSet<String> tests = new TreeSet<>();
            files.map(file -> file.getFileName().toString()).filter(name -> name.endsWith("Test.java"))
                    .forEach(name -> tests.add(name.replace(".java", "")));
            due.same("the tests", told.toString(), tests.toString());
        }
    }
}
