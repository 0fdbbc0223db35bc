import java.io.IOException;
import java.nio.file.Files;
import java.nio.file.Path;
import java.util.ArrayList;
import java.util.List;
import java.util.regex.Matcher;
import java.util.regex.Pattern;

/** The example of README.md: its lines stand in example(), and each answers the number that stands beside it. */
public final class ReadmeTest extends Checks {
    private static final Path README = Path.of("README.md");
    private static final Path THIS = Path.of("src/test/java/ReadmeTest.java");
    private static final Pattern ANSWER = Pattern.compile("int \\w+ = .*; +// (-?\\d+)(:.*)?");

    public static void main(String[] args) throws IOException {
        topic("README.md");
        List<String> lines = shownLines();
        is("lines of the example are there", lines.isEmpty(), false);
        is("the example as it is run", runLines(), codeOf(lines));
        is("its answers", example(), answersOf(lines));
        isWritten();
        end();
    }

    private static List<Integer> example() {
        // begin
        TreeQueries x = new TreeQueries();
        int b = x.addNode(0, 1, 4);
        int second = x.addNode(0, 1, 7);
        for (char sign : "//b[=4]".toCharArray()) {
            x.type(sign);
        }
        int paths = x.read(0);
        int found = x.count(0, 0);
        int node = x.selected(0, 0, 0);
        int none = x.selected(0, 0, 1);
        int length = x.size(0, 5);
        int used = x.rewrite(0);
        int shorter = x.size(0, 5);
        int states = x.undo();
        // end
        return List.of(b, second, paths, found, node, none, length, used, shorter, states);
    }

    /** What the comments of the example, and the text below it, say about how queries are written. */
    private static void isWritten() {
        TreeQueries x = grownWith("//b[=4]");
        is("as it is read", query(x, 0), "/#*/b[=4]");
        x.rewrite(0);
        is("rewritten", query(x, 0), "/%b[=4]");
        x.undo();
        is("undone", query(x, 0), "/#*/b[=4]");
        reads("//b[=4]|^*/{*[-1,?a/b+$]", "/#*/b[=4]|^*/{*[-1,?a/b+$]", 2);
    }

    private static List<String> shownLines() throws IOException {
        List<String> shown = new ArrayList<>();
        boolean inside = false;
        for (String line : Files.readAllLines(README)) {
            if (line.startsWith("```")) {
                inside = line.equals("```java");
            } else if (inside) {
                shown.add(line);
            }
        }
        return shown;
    }

    private static List<String> codeOf(List<String> lines) {
        List<String> code = new ArrayList<>();
        for (String line : lines) {
            code.add(line.replaceFirst(" +// .*", ""));
        }
        return code;
    }

    private static List<String> runLines() throws IOException {
        List<String> run = new ArrayList<>();
        boolean inside = false;
        for (String line : Files.readAllLines(THIS)) {
            String code = line.startsWith("        ") ? line.substring(8) : line;
            if (code.equals("// begin") || code.equals("// end")) {
                inside = code.equals("// begin");
            } else if (inside) {
                run.add(code);
            }
        }
        return run;
    }

    private static List<Integer> answersOf(List<String> lines) {
        List<Integer> answers = new ArrayList<>();
        for (String line : lines) {
            Matcher matcher = ANSWER.matcher(line);
            if (matcher.matches()) {
                answers.add(Integer.valueOf(matcher.group(1)));
            }
        }
        return answers;
    }
}
