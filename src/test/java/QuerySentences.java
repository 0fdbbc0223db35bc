/** The sentences about what a query is, and what it selects. */
final class QuerySentences extends Sentences {
    private QuerySentences() {
    }

    static void look() {
        section("QUERIES");
        unions();
        paths();
        steps();
        predicates();
        shortPaths();
        kinds();
        gifts();
        atoms();
        selections();
    }

    /** The size of the query of a text: what as size() tells it. */
    private static int sizeOf(String text, int what) {
        return grownWith(text).size(0, what);
    }

    private static void selects(String text, int context, String due) {
        selects(grown(), text, context, due);
    }

    private static void unions() {
        sentence("A query is a union of 1 to 4 paths, separated by |.");
        fault("", 0);
        fault("|", 0);
        fault("|a", 0);
        fault("a|", 2);
        fault("a||b", 2);
        reads("a", "a", 1);
        reads("a|b", "a|b", 2);
        reads("a|b|c", "a|b|c", 3);
        reads("a|b|c|d", "a|b|c|d", 4);
        is("paths", sizeOf("a|b|c|d", 0), 4);
        fault("a|b|c|d|e", 7);
        fault("a,b", 1);
    }

    private static void paths() {
        sentence("A path consists of 1 to 8 steps and may be absolute, written with a slash in front.");
        fault("/", 1);
        fault("a|/", 3);
        is("one step", sizeOf("a", 1), 1);
        is("one step of an absolute path", sizeOf("/a", 1), 1);
        is("eight steps", sizeOf("a/b/c/d/e/f/g/h", 1), 8);
        is("eight steps of an absolute path", sizeOf("/a/b/c/d/e/f/g/h", 1), 8);
        is("eight steps in each of two paths", sizeOf("a/b/c/d/e/f/g/h|a/b/c/d/e/f/g/h", 1), 16);
        fault("a/b/c/d/e/f/g/h/a", 16);
        fault("/a/b/c/d/e/f/g/h/a", 17);
        selects("b", 5, "7");
        selects("/b", 5, "1");
        reads("/a|b|/c", "/a|b|/c", 3);

        sentence("Steps are separated by a slash.");
        selects("b/a", 0, "2");
        fault("ba", 1);
        fault("a.*", 1);
        fault("a[1]b", 4);
        fault("a/", 2);

        sentence("Two slashes, between steps or in front of a path, stand for a slash, the step #* and another slash "
                + "(which counts as a step).");
        reads("a//b", "a/#*/b", 1);
        reads("//a", "/#*/a", 1);
        reads("//a|//b", "/#*/a|/#*/b", 2);
        is("steps between", sizeOf("a//b", 1), 3);
        is("steps in front", sizeOf("//a", 1), 2);
        is("four times two", sizeOf("//a//b//c//d", 1), 8);
        fault("//a//b//c//d/e", 13);
        selects("//a", 7, "2 4 6");
        selects("b//a", 0, "2 4");
        fault("//", 2);
        fault("a//", 3);
        fault("///a", 2);
        fault("a///b", 3);
        fault("////a", 2);
    }

    private static void steps() {
        sentence("A step is an axis sign (or none), a test, and 0 to 3 predicates.");
        for (String step : new String[] {"a", "*", ".*", "%a", "#b", ">c", "}d", "^e", "~f", "<g", "{h", "%*[1]",
            "a[1][2]", "{h[1][2][3]"}) {
            reads(step, step, 1);
        }
        is("no predicates", sizeOf("%a", 2), 0);
        is("three predicates", sizeOf("%a[1][2][3]", 2), 3);
        is("three in each step", sizeOf("a[1][2][3]/b[1][2][3]", 2), 6);
        fault("%a[1][2][3][4]", 11);
        fault("..*", 1);
        fault("%", 1);
        fault("%[1]", 1);
        fault("[1]", 0);
        fault("./a", 1);

        sentence("A test is the letter a to h of a name, or * for any name.");
        for (char letter = 'a'; letter <= 'h'; letter++) {
            reads("" + letter, "" + letter, 1);
            reads("." + letter, "." + letter, 1);
        }
        reads("*", "*", 1);
        selects("*", 0, "1 5");
        selects("%b", 0, "1 3 7");
        selects("%h", 0, "");
        fault("`", 0);
        fault("i", 0);
        fault("A", 0);
        fault(".`", 1);
        fault(".i", 1);
        fault("**", 1);
        fault("a*", 1);
    }

    private static void predicates() {
        sentence("A predicate is written in square brackets: 1 to 3 alternatives, separated by +; an alternative has 1 "
                + "to 3 conditions, separated by a comma; a condition is an atom, or - and an atom (the opposite).");
        for (String text : new String[] {"a[1]", "a[1+2]", "a[1+2+3]", "a[1,2]", "a[1,2,3]", "a[1,2,3+4,5,6+7,8,9]",
            "a[-1]", "a[-$]", "a[-=3]", "a[-?%b/^*/{c]", "*[-$,?b+=1]/^*[2]", "a[1,2+3+4,5,6]"}) {
            reads(text, text, 1);
        }
        is("one condition", sizeOf("a[-1]", 3), 1);
        is("nine conditions", sizeOf("a[1,2,3+4,5,6+7,8,9]", 3), 9);
        is("three alternatives of one", sizeOf("a[1+2+3]", 3), 3);
        is("three conditions of one alternative", sizeOf("a[1,2,3]", 3), 3);
        fault("a[]", 2);
        fault("a[", 2);
        fault("a[1", 3);
        fault("a[+1]", 2);
        fault("a[1+]", 4);
        fault("a[1+,]", 4);
        fault("a[,1]", 2);
        fault("a[1,]", 4);
        fault("a[1+2+3+4]", 7);
        fault("a[1,2,3,4]", 7);
        fault("a[--1]", 3);
        fault("a[-]", 3);
        fault("a]", 1);
        fault("a[1]]", 4);

        sentence("An atom is a digit from 1 to 9 (a position), $ (the last position), = and a digit (a value), or ? and "
                + "a short path.");
        for (int digit = 1; digit <= 9; digit++) {
            reads("a[" + digit + "]", "a[" + digit + "]", 1);
        }
        for (int digit = 0; digit <= 9; digit++) {
            reads("a[=" + digit + "]", "a[=" + digit + "]", 1);
        }
        reads("a[$]", "a[$]", 1);
        reads("a[?b]", "a[?b]", 1);
        fault("a[0]", 2);
        fault("a[-0]", 3);
        fault("a[:]", 2);
        fault("a[10]", 3);
        fault("a[=/]", 3);
        fault("a[=:]", 3);
        fault("a[=]", 3);
        fault("a[=12]", 4);
        fault("a[=-1]", 3);
        fault("a[$$]", 3);
        fault("a[b]", 2);
        fault("a[?]", 3);
    }

    private static void shortPaths() {
        sentence("A short path has 1 to 3 steps without predicates, separated by single slashes.");
        for (String text : new String[] {"a[?b]", "a[?.*]", "a[?b/c]", "a[?b/c/d]", "a[?#a/>b/}c,?^d/~e/<f+?{g/.h/*]"}) {
            reads(text, text, 1);
        }
        selects("*[?b/a]", 0, "1");
        selects(".*[?*/*/*]", 0, "0");
        fault("a[?]", 3);
        fault("a[?i]", 3);
        fault("a[?.]", 4);
        fault("a[?b/c/d/e]", 8);
        fault("a[?b[1]]", 4);
        fault("a[?/b]", 3);
        fault("a[?b//c]", 5);
        fault("a[?b/]", 5);
        fault("a[?b|c]", 4);
    }

    private static void kinds() {
        sentence("A predicate is positional if some atom in it is a position or $.");
        // Rule 8 leaves predicates that are positional.
        for (String predicate : new String[] {"[1]", "[9]", "[$]", "[-1]", "[-$]", "[=1,2]", "[=1+$]", "[?a,=2,-9]",
            "[=1,=2,=3+=4,=5,=6+=7,=8,1]"}) {
            stays("a" + predicate + predicate);
        }
        for (String predicate : new String[] {"[=1]", "[-=9]", "[?a]", "[-?a/b+=1,?c]",
            "[=1,=2,=3+=4,=5,=6+=7,=8,=9]"}) {
            rewrites("a" + predicate + predicate, "a" + predicate, "8");
        }

        sentence("A step is positional if one of its predicates is.");
        is("none", sizeOf("a", 4), 0);
        is("values alone", sizeOf("a[=1][?b]", 4), 0);
        is("the only one", sizeOf("a[1]", 4), 1);
        is("the first", sizeOf("a[1][=2][=3]", 4), 1);
        is("the second", sizeOf("a[=1][-$][=3]", 4), 1);
        is("the third", sizeOf("a[=1][=2][=3,3]", 4), 1);
        stays("#*/a[=1][1]");
        rewrites("#*/a[=1][=2]", "%a[=1][=2]", "2");
        rewrites("#*/a[=1]/b[1]", "%a[=1]/b[1]", "2");

        sentence("A plain step has no predicates.");
        rewrites("a/.*", "a", "1");
        stays("a[1]/.*[2]");
        stays("#*[=1]/a");
        stays("#*[1]/%a");
        stays("a[=1]/^*");
        stays("a/^*[=1]");
    }

    private static void gifts() {
        sentence("A step gives for a node: the nodes of its axis that pass the test, in the order of the axis; then, for "
                + "each predicate in turn, only those nodes stay for which it holds.");
        selects("%a", 0, "2 4 6");
        selects("%a[1]", 0, "2");
        selects("~*[1]", 4, "3");
        selects("~*[2]", 4, "1");
        selects("<*[1]", 7, "6");
        selects("{*[1]", 7, "6");
        selects("{*[2]", 7, "4");
        selects("{a[2]", 7, "4");
        selects("}*[1]", 4, "5");
        selects("#*[1]", 3, "3");
        selects("%*[-=3][2]", 0, "3");
        selects("%*[2][=3]", 0, "2");
        selects("%*[2][-=3]", 0, "");
        selects("%*[-1][-1][1]", 0, "3");
        selects("%*[2][1][$]", 0, "2");
        selects("{*[-1][1]", 7, "4");

        sentence("A predicate holds if in some alternative all conditions hold.");
        selects("%*[=1+=3+=5]", 0, "1 2 4");
        selects("%*[?*,?b]", 0, "1 5");
        selects("%*[?*,?b,=2]", 0, "5");
        selects("%*[?*,-?b]", 0, "3");
        selects("%*[?b,?a+=5]", 0, "1 4 5");
        selects("%*[?a,=4+-?*]", 0, "2 3 4 6 7");
        selects("%*[1+$]", 0, "1 7");
        selects("%*[1,$]", 0, "");
        selects("%*[1+2,3+=7,$,-1]", 0, "1 7");
        selects("%*[1,=2+2,=3+3,=3]", 0, "2");
        selects("%*[h]".replace("h", "?h"), 0, "");
    }

    private static void atoms() {
        sentence("With m nodes that are left before the predicate, numbered from 1 in their order: a position holds for "
                + "the node with this number, $ for the node with the number m, = for nodes with this value, ? for nodes "
                + "from which the short path selects at least one node.");
        selects("%*[1]", 0, "1");
        selects("%*[7]", 0, "7");
        selects("%*[8]", 0, "");
        selects("%*[-8]", 5, "6 7");
        selects("%*[$]", 0, "7");
        selects("%*[-1]", 5, "7");
        selects("%*[-$]", 5, "6");
        selects("{*[$]", 7, "1");
        selects("%h[1]", 0, "");
        selects("%h[$]", 0, "");
        selects("%h[-$]", 0, "");
        selects("b[1,$]", 0, "1");
        selects("b[-$]", 0, "");
        selects("%*[=5]", 0, "4");
        selects("%*[=0]", 0, "");
        selects("#*[=0]", 0, "0");
        selects("%*[-=5]", 1, "2 3");
        selects("%*[?a]", 0, "1 3 5");
        selects("%*[?*]", 0, "1 3 5");
        selects("%*[?.*]", 5, "6 7");
        selects("#*[?b/b]", 0, "0");
        selects("#*[-?*]", 0, "2 4 6 7");
        selects("%*[?^c]", 0, "6 7");
        selects("#*[?^*]", 0, "1 2 3 4 5 6 7");
        selects("%*[?~b/>c]", 0, "2 3 4");
        selects("#*[?{*/<*]", 0, "5 6 7");
        selects(wide(10), "*[9]", 0, "9");
        selects(wide(9), "*[9]", 0, "");
        selects(wide(10), "<*[8]", 9, "1");
        selects(wide(10), "<*[9]", 9, "");
        selects(wide(40), "*[9]", 0, "9");
        selects(wide(40), "*[$]", 0, "39");
        selects(wide(40), "<*[9]", 39, "30");
        selects(wide(40), "*[=9][4]", 0, "39");
        selects(wide(40), "*[-?>*]", 0, "39");
        selects(wide(40), "*[-?<*]", 0, "1");
        selects(wide(40), "#*[-?^*]", 0, "0");
        selects(chain(40), "#*[-?%*]", 0, "39");
        selects(chain(40), "%*[-?~*/^*/.*]", 0, "1");
    }

    private static void selections() {
        sentence("A path selects nodes from a context node: it begins with the set of this node alone, or of the root if "
                + "it is absolute; with each step the set becomes that of all nodes that the step gives for some node of "
                + "the set.");
        selects(".*", 4, "4");
        selects("/.*", 4, "0");
        selects("a", 1, "2");
        selects("/a", 4, "");
        selects("/b/*", 7, "2 3");
        selects("h/*", 0, "");
        selects("*/*", 0, "2 3 6 7");
        selects("*/*[1]", 0, "2 6");
        selects("//a[1]", 4, "2 4 6");
        selects("%b/^*", 0, "0 1 5");
        selects("%*/~*", 0, "0 1 3 5");
        selects("%*/~*[1]", 0, "0 1 3 5");
        selects("%*/~*/%*", 3, "1 2 3 4 5 6 7");
        selects("{*[1]/{*[1]/{*[1]", 7, "2");
        selects(chain(40), "*/*/*/*/*/*/*/*", 31, "39");
        selects(chain(40), "*/*/*/*/*/*/*/*", 32, "");
        selects(new TreeQueries(), "#*", 0, "0");
        is("all 40 nodes", grownOf(wide(40), "#*").count(0, 0), 40);
        selects(wide(40), "h|h|h|^*/*[$]/.*[=9]/<*[1]/>*[1]/^*/#*[$]/.*[=9]", 39, "39");

        sentence("A query selects all nodes that one of its paths selects.");
        selects("a|%a|.*", 1, "1 2 4");
        selects("%*|/c", 1, "2 3 4 5");
        selects("<*[1]|<*[$]", 3, "2");
        selects("h|h|h|a", 1, "2");
        selects("h|h", 1, "");
        selects("b|c|/c|^*", 1, "0 3 5");
    }

    private static TreeQueries grownOf(TreeQueries x, String text) {
        read(x, 0, text);
        return x;
    }
}
