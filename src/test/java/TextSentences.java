/** The sentences about texts and their faults. */
final class TextSentences extends Sentences {
    private static final String TEST = "*abcdefgh";
    private static final String STEP = ".%#>}^~<{" + TEST;
    private static final String PATH = "/" + STEP;
    private static final String CONDITION = "-$=?123456789";
    private static final String EIGHT_STEPS = "a/b/c/d/e/f/g/h";

    private TextSentences() {
    }

    static void look() {
        section("TEXTS");
        lengths();
        faults();
        limits();
        writing();
    }

    private static void lengths() {
        sentence("The text has at most 80 bytes.");
        TreeQueries x = new TreeQueries();
        is("at first", x.clearText(), 0);
        String steps = "/" + "%a[=1][=2]/".repeat(7);
        type(x, steps + "a|");
        is("a fault behind 80 bytes", x.read(3), -10 - 80);
        refuses("byte 81", STATE, x, () -> x.type('a'));
        is("80 bytes", read(x, 3, steps + "%a"), 1);
        is("80 bytes as they are written", query(x, 3), steps + "%a");
        is("the length of a full text", x.clearText(), 80);

        sentence("It contains no spaces.");
        fault(" ", 0);
        fault(" a", 0);
        fault("a b", 1);
        fault("a ", 1);
        fault("a/ b", 2);
        fault("a[ 1]", 2);
        fault("a[1 ]", 3);
        fault("a| b", 2);
    }

    /** Behind a text, just these bytes can stand. */
    private static void onlyBehind(String text, String standing) {
        for (char sign = 0; sign < 128; sign++) {
            TreeQueries x = new TreeQueries();
            type(x, text);
            x.type(sign);
            int answer = x.read(0);
            boolean stands = standing.indexOf(sign) >= 0;
            is("byte " + (int) sign + " behind " + text + " stands", answer != -10 - text.length(), stands);
            if (stands && answer < 0) {
                is("the text ends too soon", answer, -10 - text.length() - 1);
            }
        }
    }

    private static void faults() {
        sentence("The fault of a text is the index of the first byte that cannot stand at its place, or the length of the "
                + "text if it ends too soon.");
        onlyBehind("", PATH);
        onlyBehind("/", PATH);
        onlyBehind("//", STEP);
        onlyBehind("a", "/[|");
        onlyBehind("/a", "/[|");
        onlyBehind("//a", "/[|");
        onlyBehind("a/", PATH);
        onlyBehind("a//", STEP);
        for (char sign : ".%#>}^~<{".toCharArray()) {
            onlyBehind("" + sign, TEST);
            onlyBehind(sign + "*", "/[|");
        }
        onlyBehind("a[", CONDITION);
        onlyBehind("a[-", CONDITION.substring(1));
        onlyBehind("a[1", ",+]");
        onlyBehind("a[$", ",+]");
        onlyBehind("a[=", "0123456789");
        onlyBehind("a[-=", "0123456789");
        onlyBehind("a[=0", ",+]");
        onlyBehind("a[?", STEP);
        onlyBehind("a[-?", STEP);
        onlyBehind("a[?%", TEST);
        onlyBehind("a[?a", "/,+]");
        onlyBehind("a[?a/", STEP);
        onlyBehind("a[?a/b", "/,+]");
        onlyBehind("a[1,", CONDITION);
        onlyBehind("a[1+", CONDITION);
        onlyBehind("a[1]", "/[|");
        onlyBehind("a[1][2]", "/[|");
        onlyBehind("a|", PATH);
        onlyBehind("a|/", PATH);
        onlyBehind("a[1]/", PATH);
        fault("", 0);
        fault("a/]b", 2);
        fault("ab c", 1);
        fault("a[1", 3);
        fault("//a[-?b/", 8);
    }

    private static void limits() {
        sentence("A fifth path cannot stand: its | is at fault.");
        onlyBehind("a|b|c", "/[|");
        onlyBehind("a|b|c|", PATH);
        onlyBehind("a|b|c|d", "/[");
        onlyBehind("a|b|c|d[1]", "/[");
        fault("a|b|c|d|e", 7);
        fault("a|b|c|d|", 7);
        fault("/a|b[1]|//c|d/e|f", 15);

        sentence("Where a path would get more than 8 steps, the first byte of the step too much is at fault, which is the "
                + "second slash for a step #* that two slashes stand for.");
        onlyBehind("a/b/c/d/e/f/g/", PATH);
        onlyBehind("a/b/c/d/e/f/g//", "");
        onlyBehind(EIGHT_STEPS, "/[|");
        onlyBehind(EIGHT_STEPS + "/", "");
        onlyBehind(EIGHT_STEPS + "|", PATH);
        onlyBehind("//a//b//c//d", "/[|");
        onlyBehind("//a//b//c//d/", "");
        onlyBehind("//a//b//c/", PATH);
        onlyBehind("//a//b//c//", STEP);
        fault(EIGHT_STEPS + "/a", 16);
        fault(EIGHT_STEPS + "/", 16);
        fault(EIGHT_STEPS + "/%a", 16);
        fault(EIGHT_STEPS + "//a", 16);
        fault(EIGHT_STEPS + "//", 16);
        fault("/" + EIGHT_STEPS + "//a", 17);
        fault("a|" + EIGHT_STEPS + "//a", 18);
        fault("a/b/c/d/e/f/g//h", 15);
        fault("a//b//c//d//e", 12);
        fault("a//b//c//d//", 12);
        fault("//a//b//c//d//e", 13);

        sentence("A fourth predicate of a step, alternative or condition is at fault with its [, + or comma, a fourth step "
                + "of a short path with its slash.");
        onlyBehind("a[1][2][3]", "/|");
        onlyBehind("a[1][2][3]/b[4][5]", "/[|");
        onlyBehind("a[1+2", ",+]");
        onlyBehind("a[1+2+3", ",]");
        onlyBehind("a[1+2+3,4", ",]");
        onlyBehind("a[1,2", ",+]");
        onlyBehind("a[1,2,3", "+]");
        onlyBehind("a[1,2,3+4", ",+]");
        onlyBehind("a[1,2,3+4,5,6+7,8,9", "]");
        onlyBehind("a[?a/b/c", ",+]");
        onlyBehind("a[?a/b/c,?a/b", "/,+]");
        onlyBehind("a[1+2+3,4,?a/b/c", "]");
        onlyBehind("a[1+2+3][1+2", ",+]");
        fault("a[1][2][3][4]", 10);
        fault("a[1+2+3+4]", 7);
        fault("a[1,2,3,4]", 7);
        fault("a[1,2,3+4,5,6+7,8,9,1]", 19);
        fault("a[1,2,3+4,5,6+7,8,9+1]", 19);
        fault("a[?a/b/c/d]", 8);
        fault("a[?a,?b/c/d/e]", 11);
    }

    private static void writing() {
        sentence("A query is written in the same way, always with #* for two slashes.");
        for (String text : new String[] {"a", "/a", "a/b", "%a[1]", "a|/b|c", "/#*/#*", "a[-?.*/%b,$+=0][-1][-=9+-$]",
            "{*[1,2,3+4,5,6+7,8,9]|.h", EIGHT_STEPS, "/" + EIGHT_STEPS}) {
            reads(text, text, text.split("\\|").length);
        }
        reads("//a", "/#*/a", 1);
        reads("a//b", "a/#*/b", 1);
        reads("//#*//b", "/#*/#*/#*/b", 1);
        reads("//a//b//c//d", "/#*/a/#*/b/#*/c/#*/d", 1);
        reads("a|//b|c//d|//e//f", "a|/#*/b|c/#*/d|/#*/e/#*/f", 4);
    }
}
