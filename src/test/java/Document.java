import java.io.IOException;
import java.nio.file.Files;
import java.nio.file.Path;
import java.util.LinkedHashMap;
import java.util.Map;

/**
 * The text of ../shared/DOC.md by its sections, from which the tests take the sentences that they look at. What is left
 * of it at the end has no test.
 */
final class Document {
    private static final Path FILE = Path.of("../shared/DOC.md");
    /** Stands where a sentence was taken, so that what was around it does not grow together. */
    private static final String TAKEN = " ## ";

    private final Map<String, String> sections = new LinkedHashMap<>();

    /** Code, and signatures, which FaceTest looks at, are left out. */
    Document() throws IOException {
        String section = "";
        boolean code = false;
        for (String line : Files.readAllLines(FILE)) {
            boolean fence = line.startsWith("```");
            code ^= fence;
            if (line.matches("#+ .*|[A-Z]+( [A-Z]+)*")) {
                section = line.replaceFirst("^#+ ", "");
                sections.put(section, "");
            } else if (!code && !fence && !line.matches("`.*`|---- .*")) {
                sections.merge(section, line + " ", String::concat);
            }
        }
        sections.replaceAll((name, text) -> text.replaceAll("\\s+", " "));
    }

    boolean has(String section) {
        return sections.containsKey(section);
    }

    /** Takes a sentence from a section; tells whether it stood there. */
    boolean take(String section, String sentence) {
        String text = sections.getOrDefault(section, "");
        int at = text.indexOf(sentence);
        if (at < 0) {
            return false;
        }
        sections.put(section, text.substring(0, at) + TAKEN + text.substring(at + sentence.length()));
        return true;
    }

    /** What was not taken, a line for each section that has such a rest. */
    String rest() {
        StringBuilder out = new StringBuilder();
        for (Map.Entry<String, String> section : sections.entrySet()) {
            String left = section.getValue().replaceAll("( |##)+", " ").trim();
            if (!left.isEmpty()) {
                out.append(section.getKey()).append(": ").append(left).append('\n');
            }
        }
        return out.toString();
    }
}
