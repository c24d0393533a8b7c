import java.io.IOException;
import java.nio.file.Files;
import java.nio.file.Path;
import java.util.ArrayList;
import java.util.LinkedHashMap;
import java.util.List;
import java.util.Map;

/** The document's sections, as rows of pieces: each a sentence, or a part of one that ends in ";". */
final class Document {
    private static final Path FILE = Path.of("../shared/DOC.md");
    /** The heading of a promise is followed by its method's name, and this by the sentences. */
    private static final String HEADING = "#+ (Promise \\d+|[^:]*).*";

    private final Map<String, List<String>> sections = new LinkedHashMap<>();

    static Document read() throws IOException {
        Document document = new Document();
        List<String> section = new ArrayList<>();
        for (String line : Files.readAllLines(FILE)) {
            if (line.matches(HEADING)) {
                section = new ArrayList<>();
                document.sections.put(line.replaceAll(HEADING, "$1"), section);
            } else if (!line.isBlank() && !line.startsWith("```")) {
                section.addAll(List.of(plain(line).split("(?<=[.;]) ")));
            }
        }
        return document;
    }

    private static String plain(String line) {
        return line.strip().replaceAll("^- ", "").replaceAll("\\s+", " ");
    }

    List<String> pieces(String section) {
        return sections.getOrDefault(section, List.of());
    }

    String text(String section) {
        return String.join(" ", pieces(section));
    }
}
