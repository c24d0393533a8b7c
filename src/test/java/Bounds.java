import java.io.IOException;
import java.util.HashMap;
import java.util.Map;

/**
 * Tests of sentences of the document: each is named by its section and by its words, which are to stand
 * there. At the end it is looked whether a section has words that no test has named.
 */
final class Bounds {
    /** A test that no script can tell. */
    interface Test {
        void run(Due due);
    }

    /** The words of a method's declaration, which FaceTest tests, and those on comments of the interface. */
    private static final String NO_SENTENCE = "^`(int )?\\w+\\([^)]*\\)`:|Ahead of the calls [^.]*\\.";

    private final Due due;
    private final Document document = Document.read();
    private final Map<String, String> unnamed = new HashMap<>();
    private String section = "";
    private int tests = 0;

    Bounds(Due due) throws IOException {
        this.due = due;
    }

    void section(String name) {
        section = name;
        due.at(name);
        due.holds("the document has this section", !document.text(name).isEmpty());
        unnamed.put(name, document.text(name).replaceAll(NO_SENTENCE, ""));
    }

    void sentence(String words, String script) {
        sentence(words, context -> new Script(context).run(script));
    }

    void sentence(String words, Test test) {
        due.at(section + ", \"" + words + "\"");
        due.holds("the document says this", document.text(section).contains(words));
        unnamed.merge(section, "", (left, none) -> left.replace(words, "~"));
        test.run(due);
        tests++;
    }

    /** The section has no words of which there is no test, but for those that join others. */
    void complete() {
        String left = unnamed.getOrDefault(section, "").replaceAll("[~;,.]|\\b(and|or)\\b", "").strip();
        due.at(section);
        due.same("what no test has named", left.replaceAll("\\s+", " "), "");
    }

    int tests() {
        return tests;
    }
}
