import java.io.IOException;
import java.nio.file.Files;
import java.nio.file.Path;
import java.util.List;
import java.util.regex.Matcher;
import java.util.regex.Pattern;

/** What of ../shared/LANGUAGE.md can be seen in the text of the program. */
public final class LanguageTest {
    private static final Path PROGRAM = Path.of("src/main/java/TreeQueries.java");
    private static final String[] FORBIDDEN = {"->", "::", "\\bassert\\b", "\\bsynchronized\\b", "\\bfinally\\b",
        "\\w+Exact\\b", "\\bpackage\\b", "\\bprotected\\b", "\\bObject\\b", "\\bThrowable\\b", "\\bException\\b",
        "\\bcatch \\((ArrayIndex|NullPointer|Arithmetic|ClassCast|NegativeArray|ArrayStore|Runtime)",
        "\\bSystem\\.(?!arraycopy\\b)", "\\bArrays\\.(?!fill\\b|copyOf\\b|copyOfRange\\b)", "\\bhashCode\\b",
        "\\bMath\\.(random|sqrt|pow)\\b", "\\bstatic\\s*\\{", "\\bvar\\b",
        "\\bimport (?!java\\.util\\.(Arrays|ArrayList|List|Iterator|NoSuchElementException);)"};

    private static int wrong = 0;

    public static void main(String[] args) throws IOException {
        List<String> lines = Files.readAllLines(PROGRAM);
        for (int i = 0; i < lines.size(); i++) {
            String code = lines.get(i).replaceAll("^\\s*(/?\\*|//).*", "").replaceAll("\"[^\"]*\"", "\"\"");
            for (String forbidden : FORBIDDEN) {
                Matcher matcher = Pattern.compile(forbidden).matcher(code);
                if (matcher.find()) {
                    say(i, "has " + matcher.group());
                }
            }
            if (!lines.get(i).chars().allMatch(c -> c < 127) || lines.get(i).length() > 120) {
                say(i, "is too long or has a foreign sign");
            }
        }
        methodLengths(lines);
        System.out.println(wrong == 0 ? "the text of the program is as due" : wrong + " places are not as due");
        if (wrong != 0) {
            System.exit(1);
        }
    }

    private static void methodLengths(List<String> lines) {
        Pattern head = Pattern.compile("^(    |        )(?! ).*[)\\w] \\{$");
        for (int i = 0; i < lines.size(); i++) {
            Matcher matcher = head.matcher(lines.get(i));
            if (!matcher.find() || lines.get(i).contains(" class ") || !lines.get(i).contains(")")) {
                continue;
            }
            int end = i;
            while (end < lines.size() && !lines.get(end).equals(matcher.group(1) + "}")) {
                end++;
            }
            if (end - i > 60) {
                say(i, "begins a method of " + (end - i) + " lines");
            }
            if (lines.get(i).chars().filter(c -> c == ',').count() >= 7) {
                say(i, "has more than seven parameters");
            }
        }
    }

    private static void say(int line, String what) {
        wrong++;
        System.out.println("line " + (line + 1) + " " + what);
    }
}
