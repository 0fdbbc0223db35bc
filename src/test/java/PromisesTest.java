import java.util.ArrayList;
import java.util.List;

/** Each promise of the document by itself: ordinary inputs, the edges that it names, and wrong inputs. */
public final class PromisesTest {
    private static final Class<?> INDEX = IndexOutOfBoundsException.class;
    private static final Class<?> ARGUMENT = IllegalArgumentException.class;
    private static final Class<?> STATE = IllegalStateException.class;
    private static final Class<?> UNSUPPORTED = UnsupportedOperationException.class;
    private static final int LEAST = Integer.MIN_VALUE;
    private static final int MOST = Integer.MAX_VALUE;

    private static int checks = 0;
    private static int wrong = 0;
    private static String promise = "";

    private interface Call {
        long answer();
    }

    public static void main(String[] args) {
        newObject();
        addNode();
        removeNode();
        moveNode();
        setNode();
        nodes();
        node();
        axis();
        type();
        clearText();
        readFaults();
        readQueries();
        written();
        size();
        unite();
        drop();
        count();
        predicates();
        selected();
        sum();
        given();
        differences();
        rewriteSteps();
        rewritePredicates();
        rewrite();
        uses();
        undo();
        digest();
        System.out.println(wrong == 0 ? checks + " checks hold" : wrong + " of " + checks + " checks fail");
        if (wrong != 0) {
            System.exit(1);
        }
    }

    // ---- helpers

    private static void is(String what, Object got, Object due) {
        checks++;
        if (!due.equals(got)) {
            wrong++;
            System.out.println(promise + ": " + what + " is " + got + ", due is " + due);
        }
    }

    private static void is(String what, long got, long due) {
        is(what, (Object) got, (Object) due);
    }

    /** A call that throws just this class, and changes nothing. */
    private static void refuses(String what, Class<?> due, TreeQueries x, Call call) {
        long before = x.digest();
        String got = "the answer ";
        try {
            got += call.answer();
        } catch (RuntimeException e) {
            got = e.getClass().getSimpleName();
        }
        is(what, got, due.getSimpleName());
        is(what + ", digest after it", x.digest(), before);
    }

    /** A call that saves a state, which undo() brings back. */
    private static void isUndoable(String what, TreeQueries x, Call call) {
        // Leaves at most three states, so that one more can be counted.
        x.setNode(0, x.node(0, 0), x.node(0, 1));
        x.undo();
        String before = shown(x);
        int saved = savedStates(x);
        call.answer();
        is(what + ", states after it", savedStates(x), Math.min(4, saved + 1));
        x.undo();
        is(what + ", state after undo", shown(x), before);
    }

    /** All that undo() restores, told by the face. */
    private static String shown(TreeQueries x) {
        StringBuilder out = new StringBuilder(tree(x));
        for (int place = 0; place < 4; place++) {
            out.append(' ').append(query(x, place));
        }
        return out.toString();
    }

    /** The number of saved states, found by taking the digest for each that it could be; empties the text. */
    private static int savedStates(TreeQueries x) {
        x.clearText();
        for (int saved = 0; saved <= 4; saved++) {
            if (x.digest() == digestByCalls(x, saved, 0)) {
                return saved;
            }
        }
        return -1;
    }

    private static long digestByCalls(TreeQueries x, int saved, int length) {
        List<Integer> values = new ArrayList<>(List.of(saved, length, x.nodes()));
        for (int node = 0; node < x.nodes(); node++) {
            for (int what = 0; what <= 5; what++) {
                values.add(x.node(node, what));
            }
        }
        for (int place = 0; place < 4; place++) {
            String query = query(x, place);
            values.add(query == null ? 0 : 1);
            for (int what = 0; query != null && what <= 5; what++) {
                values.add(x.size(place, what));
            }
            for (int i = 0; query != null && i < query.length(); i++) {
                values.add((int) query.charAt(i));
            }
            for (int context = 0; query != null && context < x.nodes(); context++) {
                values.add(x.count(place, context));
                values.add(x.sum(place, context));
            }
            for (int rule = 1; query != null && rule <= 9; rule++) {
                values.add(x.uses(place, rule));
            }
        }
        long h = 18335;
        for (int v : values) {
            h = 31 * h + v;
        }
        return h;
    }

    /** Each node as its number, name, value and parent. */
    private static String tree(TreeQueries x) {
        StringBuilder out = new StringBuilder();
        for (int node = 0; node < x.nodes(); node++) {
            out.append(node > 0 ? " " : "").append((char) ('a' + x.node(node, 0))).append(x.node(node, 1));
            out.append('^').append(x.node(node, 2));
        }
        return out.toString();
    }

    private static int read(TreeQueries x, int place, String text) {
        x.clearText();
        for (int i = 0; i < text.length(); i++) {
            x.type(text.charAt(i));
        }
        return x.read(place);
    }

    private static String query(TreeQueries x, int place) {
        StringBuilder out = new StringBuilder();
        try {
            for (int i = 0; x.written(place, i) != TreeQueries.NONE; i++) {
                out.append((char) x.written(place, i));
            }
        } catch (IllegalStateException e) {
            return null;
        }
        return out.toString();
    }

    /**
     * <pre>
     * 0 a0
     *   1 b1
     *     2 a3
     *     3 b4
     *       4 a5
     *   5 c2
     *     6 a6
     *     7 b7
     * </pre>
     */
    private static TreeQueries grown() {
        TreeQueries x = new TreeQueries();
        x.addNode(0, 1, 1);
        x.addNode(0, 2, 2);
        x.addNode(1, 0, 3);
        x.addNode(1, 1, 4);
        x.addNode(3, 0, 5);
        x.addNode(5, 0, 6);
        x.addNode(5, 1, 7);
        return x;
    }

    private static TreeQueries full() {
        TreeQueries x = new TreeQueries();
        for (int i = 1; i < 40; i++) {
            is("addNode " + i, x.addNode(0, i % 8, i % 10), i);
        }
        return x;
    }

    /** The nodes that the query at a place selects from a context, as a text like "1 4 6". */
    private static String chosen(TreeQueries x, int place, int context) {
        StringBuilder out = new StringBuilder();
        for (int i = 0; x.selected(place, context, i) != TreeQueries.NONE; i++) {
            out.append(i > 0 ? " " : "").append(x.selected(place, context, i));
        }
        return out.toString();
    }

    private static void selects(TreeQueries x, String text, int context, String due) {
        is("read " + text, read(x, 0, text) > 0, true);
        is(text + " from " + context, chosen(x, 0, context), due);
        is(text + " from " + context + ", count", x.count(0, context), due.isEmpty() ? 0 : due.split(" ").length);
    }

    // ---- the promises

    private static void newObject() {
        promise = "promise 1";
        TreeQueries x = new TreeQueries();
        is("tree", tree(x), "a0^-1");
        for (int place = 0; place < 4; place++) {
            int query = place;
            is("query " + place, String.valueOf(query(x, place)), "null");
            refuses("size", STATE, x, () -> x.size(query, 0));
        }
        refuses("undo", STATE, x, x::undo);
        is("text", x.clearText(), 0);
        is("read", x.read(0), -10);
        is("digest", x.digest(), digestByCalls(x, 0, 0));
    }

    private static void addNode() {
        promise = "promise 2";
        TreeQueries x = new TreeQueries();
        is("first child", x.addNode(0, 1, 1), 1);
        is("second child", x.addNode(0, 2, 2), 2);
        is("child of the first", x.addNode(1, 7, 9), 2);
        is("another one", x.addNode(1, 0, 0), 3);
        is("below it", x.addNode(3, 3, 3), 4);
        is("third child", x.addNode(0, 4, 4), 6);
        is("tree", tree(x), "a0^-1 b1^0 h9^1 a0^1 d3^3 c2^0 e4^0");
        refuses("parent -1", INDEX, x, () -> x.addNode(-1, 0, 0));
        refuses("parent 7 of 7", INDEX, x, () -> x.addNode(7, 0, 0));
        refuses("least parent", INDEX, x, () -> x.addNode(LEAST, 0, 0));
        refuses("name -1", ARGUMENT, x, () -> x.addNode(0, -1, 0));
        refuses("name 8", ARGUMENT, x, () -> x.addNode(0, 8, 0));
        refuses("value -1", ARGUMENT, x, () -> x.addNode(0, 0, -1));
        refuses("value 10", ARGUMENT, x, () -> x.addNode(0, 0, 10));
        refuses("all wrong", INDEX, x, () -> x.addNode(99, 99, 99));
        isUndoable("addNode", x, () -> x.addNode(3, 1, 1));
        TreeQueries y = full();
        refuses("node 41", STATE, y, () -> y.addNode(0, 0, 0));
        refuses("node 41 with a wrong name", ARGUMENT, y, () -> y.addNode(0, 8, 0));
        refuses("node 41 below none", INDEX, y, () -> y.addNode(40, 0, 0));
        y.removeNode(7);
        is("again 40", y.addNode(38, 5, 5), 39);
    }

    private static void removeNode() {
        promise = "promise 3";
        TreeQueries x = grown();
        isUndoable("removeNode", x, () -> x.removeNode(1));
        is("with all below", x.removeNode(1), 4);
        is("tree", tree(x), "a0^-1 c2^0 a6^1 b7^1");
        is("a leaf", x.removeNode(2), 3);
        is("tree", tree(x), "a0^-1 c2^0 b7^1");
        refuses("node -1", INDEX, x, () -> x.removeNode(-1));
        refuses("node 3 of 3", INDEX, x, () -> x.removeNode(3));
        refuses("the root", UNSUPPORTED, x, () -> x.removeNode(0));
        is("the rest", x.removeNode(1), 1);
        refuses("the root alone", UNSUPPORTED, x, () -> x.removeNode(0));
        is("tree", tree(x), "a0^-1");
    }

    private static void moveNode() {
        promise = "promise 4";
        TreeQueries x = grown();
        isUndoable("moveNode", x, () -> x.moveNode(3, 5));
        is("back", x.moveNode(3, 5), 6);
        is("tree", tree(x), "a0^-1 b1^0 a3^1 c2^0 a6^3 b7^3 b4^3 a5^6");
        is("forth", x.moveNode(6, 1), 3);
        is("tree", tree(x), "a0^-1 b1^0 a3^1 b4^1 a5^3 c2^0 a6^5 b7^5");
        is("behind the last child of its parent", x.moveNode(1, 0), 4);
        is("tree", tree(x), "a0^-1 c2^0 a6^1 b7^1 b1^0 a3^4 b4^4 a5^6");
        is("the last child", x.moveNode(6, 4), 6);
        is("the last of the last", x.moveNode(7, 6), 7);
        is("up", x.moveNode(7, 0), 7);
        is("up again", x.moveNode(6, 0), 7);
        is("tree", tree(x), "a0^-1 c2^0 a6^1 b7^1 b1^0 a3^4 a5^0 b4^0");
        isUndoable("moveNode that changes nothing", x, () -> x.moveNode(7, 0));
        refuses("no such node", INDEX, x, () -> x.moveNode(8, 0));
        refuses("node -1", INDEX, x, () -> x.moveNode(-1, 0));
        refuses("no such parent", INDEX, x, () -> x.moveNode(1, 8));
        refuses("parent -1", INDEX, x, () -> x.moveNode(1, -1));
        refuses("the root to none", INDEX, x, () -> x.moveNode(0, 8));
        refuses("to itself", UNSUPPORTED, x, () -> x.moveNode(4, 4));
        refuses("below itself", UNSUPPORTED, x, () -> x.moveNode(4, 5));
        refuses("the root", UNSUPPORTED, x, () -> x.moveNode(0, 7));
        refuses("the root to itself", UNSUPPORTED, x, () -> x.moveNode(0, 0));
    }

    private static void setNode() {
        promise = "promise 5";
        TreeQueries x = grown();
        isUndoable("setNode", x, () -> x.setNode(4, 7, 9));
        isUndoable("setNode that changes nothing", x, () -> x.setNode(4, 0, 5));
        is("previous", x.setNode(7, 7, 9), 17);
        is("previous then", x.setNode(7, 0, 0), 79);
        is("previous at last", x.setNode(7, 3, 4), 0);
        is("the root", x.setNode(0, 2, 3), 0);
        is("tree", tree(x), "c3^-1 b1^0 a3^1 b4^1 a5^3 c2^0 a6^5 d4^5");
        refuses("node 8", INDEX, x, () -> x.setNode(8, 0, 0));
        refuses("node -1 and wrong name", INDEX, x, () -> x.setNode(-1, 8, 0));
        refuses("name 8", ARGUMENT, x, () -> x.setNode(1, 8, 0));
        refuses("name -1", ARGUMENT, x, () -> x.setNode(1, -1, 0));
        refuses("value 10", ARGUMENT, x, () -> x.setNode(1, 0, 10));
        refuses("value -1", ARGUMENT, x, () -> x.setNode(1, 0, -1));
    }

    private static void nodes() {
        promise = "promise 6";
        TreeQueries x = new TreeQueries();
        is("at first", x.nodes(), 1);
        x.addNode(0, 0, 0);
        is("after one more", x.nodes(), 2);
        x.removeNode(1);
        is("after one less", x.nodes(), 1);
        is("at most", full().nodes(), 40);
    }

    private static void node() {
        promise = "promise 7";
        TreeQueries x = grown();
        int[][] due = {{0, 0, -1, 2, 7, 0}, {1, 1, 0, 2, 3, 1}, {0, 3, 1, 0, 0, 2}, {1, 4, 1, 1, 1, 2},
            {0, 5, 3, 0, 0, 3}, {2, 2, 0, 2, 2, 1}, {0, 6, 5, 0, 0, 2}, {1, 7, 5, 0, 0, 2}};
        for (int node = 0; node < 8; node++) {
            for (int what = 0; what < 6; what++) {
                is("node(" + node + ", " + what + ")", x.node(node, what), due[node][what]);
            }
        }
        refuses("node 8", INDEX, x, () -> x.node(8, 0));
        refuses("node -1", INDEX, x, () -> x.node(-1, 9));
        refuses("what 6", ARGUMENT, x, () -> x.node(0, 6));
        refuses("what -1", ARGUMENT, x, () -> x.node(0, -1));
    }

    private static String along(TreeQueries x, int node, int axis) {
        StringBuilder out = new StringBuilder();
        for (int i = 0; x.axis(node, axis, i) != TreeQueries.NONE; i++) {
            out.append(i > 0 ? " " : "").append(x.axis(node, axis, i));
        }
        return out.toString();
    }

    private static void axis() {
        promise = "promise 8";
        TreeQueries x = grown();
        String[] ofThree = {"4", "3", "4", "3 4", "", "5 6 7", "1", "1 0", "2", "2"};
        String[] ofSeven = {"", "7", "", "7", "", "", "5", "5 0", "6", "6 4 3 2 1"};
        String[] ofRoot = {"1 5", "0", "1 2 3 4 5 6 7", "0 1 2 3 4 5 6 7", "", "", "", "", "", ""};
        String[] ofOne = {"2 3", "1", "2 3 4", "1 2 3 4", "5", "5 6 7", "0", "0", "", ""};
        for (int axis = 0; axis < 10; axis++) {
            is("axis " + axis + " of 3", along(x, 3, axis), ofThree[axis]);
            is("axis " + axis + " of 7", along(x, 7, axis), ofSeven[axis]);
            is("axis " + axis + " of 0", along(x, 0, axis), ofRoot[axis]);
            is("axis " + axis + " of 1", along(x, 1, axis), ofOne[axis]);
        }
        TreeQueries wide = full();
        is("siblings before", along(wide, 4, TreeQueries.PRECEDING_SIBLING), "3 2 1");
        is("siblings behind", along(wide, 36, TreeQueries.FOLLOWING_SIBLING), "37 38 39");
        is("the last of 39", wide.axis(0, TreeQueries.DESCENDANT, 38), 39);
        is("none behind it", wide.axis(0, TreeQueries.DESCENDANT, 39), -1);
        is("the most index", x.axis(0, 2, MOST), -1);
        refuses("node 8", INDEX, x, () -> x.axis(8, 0, 0));
        refuses("node -1", INDEX, x, () -> x.axis(-1, 99, -1));
        refuses("axis 10", ARGUMENT, x, () -> x.axis(0, 10, 0));
        refuses("axis -1", ARGUMENT, x, () -> x.axis(0, -1, 0));
        refuses("index -1", ARGUMENT, x, () -> x.axis(0, 0, -1));
        refuses("least index", ARGUMENT, x, () -> x.axis(0, 7, LEAST));
    }

    private static void type() {
        promise = "promise 9";
        TreeQueries x = new TreeQueries();
        refuses("value -1", ARGUMENT, x, () -> x.type(-1));
        refuses("value 128", ARGUMENT, x, () -> x.type(128));
        is("value 0", x.type(0), 1);
        is("value 127", x.type(127), 2);
        for (int length = 3; length <= 80; length++) {
            is("length", x.type('a'), length);
        }
        refuses("byte 81", STATE, x, () -> x.type('a'));
        refuses("byte 81 and wrong", ARGUMENT, x, () -> x.type(128));
        is("length", x.clearText(), 80);
        is("no state is saved", savedStates(x), 0);
    }

    private static void clearText() {
        promise = "promise 10";
        TreeQueries x = new TreeQueries();
        is("empty", x.clearText(), 0);
        x.type('a');
        x.type('b');
        is("two bytes", x.clearText(), 2);
        is("empty again", x.clearText(), 0);
        is("next byte", x.type('c'), 1);
        is("read", x.read(0), 1);
        is("query", query(x, 0), "c");
        is("only read saves", savedStates(x), 1);
    }

    private static void fault(TreeQueries x, String text, int fault) {
        x.clearText();
        for (int i = 0; i < text.length(); i++) {
            x.type(text.charAt(i));
        }
        long before = x.digest();
        is("read " + text, x.read(0), -10 - fault);
        is("digest after " + text, x.digest(), before);
    }

    private static void readFaults() {
        promise = "promise 11, faults";
        TreeQueries x = new TreeQueries();
        read(x, 0, "h");
        fault(x, "", 0);
        fault(x, "/", 1);
        fault(x, "//", 2);
        fault(x, "///a", 2);
        fault(x, "a/", 2);
        fault(x, "a//", 3);
        fault(x, "a///b", 3);
        fault(x, "a/]", 2);
        fault(x, "i", 0);
        fault(x, "`", 0);
        fault(x, " a", 0);
        fault(x, "a b", 1);
        fault(x, "aa", 1);
        fault(x, "a.", 1);
        fault(x, ".", 1);
        fault(x, "..*", 1);
        fault(x, "./a", 1);
        fault(x, "|a", 0);
        fault(x, "a|", 2);
        fault(x, "a||b", 2);
        fault(x, "a|b|c|d|e", 7);
        fault(x, "a|b|c|d|", 7);
        fault(x, "a]", 1);
        fault(x, "[1]", 0);
        fault(x, "a[", 2);
        fault(x, "a[]", 2);
        fault(x, "a[1", 3);
        fault(x, "a[10]", 3);
        fault(x, "a[0]", 2);
        fault(x, "a[:]", 2);
        fault(x, "a[--1]", 3);
        fault(x, "a[-]", 3);
        fault(x, "a[=]", 3);
        fault(x, "a[=a]", 3);
        fault(x, "a[=/]", 3);
        fault(x, "a[=:]", 3);
        fault(x, "a[=12]", 4);
        fault(x, "a[=-1]", 3);
        fault(x, "a[b]", 2);
        fault(x, "a[$$]", 3);
        fault(x, "a[?]", 3);
        fault(x, "a[?/a]", 3);
        fault(x, "a[?i]", 3);
        fault(x, "a[?a//b]", 5);
        fault(x, "a[?a/]", 5);
        fault(x, "a[?a[1]]", 4);
        fault(x, "a[?a|b]", 4);
        fault(x, "a[?.]", 4);
        fault(x, "a[?a/b/c/d]", 8);
        fault(x, "a[?a/b/c/", 8);
        fault(x, "a[1,]", 4);
        fault(x, "a[,1]", 2);
        fault(x, "a[1,2,3,4]", 7);
        fault(x, "a[1+]", 4);
        fault(x, "a[1+,]", 4);
        fault(x, "a[1+2+3+4]", 7);
        fault(x, "a[1,2,3+4,5,6+7,8,9,1]", 19);
        fault(x, "a[1,2,3+4,5,6+7,8,9+1]", 19);
        fault(x, "a[?a,?b/c/d/e]", 11);
        fault(x, "a[1][2][3][4]", 10);
        fault(x, "a[1][2][3]b", 10);
        fault(x, "a/b/c/d/e/f/g/h/a", 16);
        fault(x, "a/b/c/d/e/f/g/h/", 16);
        fault(x, "a/b/c/d/e/f/g/h//a", 16);
        fault(x, "a//b//c//d//e", 12);
        fault(x, "a//b//c//d//", 12);
        fault(x, "//a//b//c//d/e", 13);
        fault(x, "//a//b//c//d//e", 13);
        fault(x, "//a//b//c//d/%e", 13);
        fault(x, "b|//a//b//c//d/e", 15);
        is("query after all faults", query(x, 0), "h");
        is("states after all faults", savedStates(x), 1);
        refuses("place -1", INDEX, x, () -> x.read(-1));
        refuses("place 4", INDEX, x, () -> x.read(4));
        refuses("least place", INDEX, x, () -> x.read(LEAST));
    }

    private static void reads(TreeQueries x, String text, String due, int paths) {
        is("read " + text, read(x, 2, text), paths);
        is("written " + text, String.valueOf(query(x, 2)), due);
    }

    private static void readQueries() {
        promise = "promise 11, queries";
        TreeQueries x = new TreeQueries();
        for (String text : List.of("a", "h", "*", ".*", "%a", "#b", ">c", "}d", "^e", "~f", "<g", "{h", "/a", "/.*",
                "a/b", "a[1]", "a[9]", "a[$]", "a[=0]", "a[=9]", "a[?b]", "a[?.*]", "a[-1]", "a[-$]", "a[-=3]",
                "a[-?%b/^*/{c]", "a[1,2,3+4,5,6+7,8,9]", "a[1][2][3]", "*[-$,?b+=1]/^*[2]", "a[?a/b/c,1+?b,2]",
                "a/b/c/d/e/f/g/h", "/a/b/c/d/e/f/g/h", "/#*/#*", "a[?#a/>b/}c,?^d/~e/<f+?{g/.h/*]")) {
            reads(x, text, text, 1);
        }
        reads(x, "//a", "/#*/a", 1);
        reads(x, "a//b", "a/#*/b", 1);
        reads(x, "a//#*//b", "a/#*/#*/#*/b", 1);
        reads(x, "//a//b//c//d", "/#*/a/#*/b/#*/c/#*/d", 1);
        reads(x, "a|b", "a|b", 2);
        reads(x, "a|/b|//c", "a|/b|/#*/c", 3);
        reads(x, "a[1]|a[1]|a[1]|a[1]", "a[1]|a[1]|a[1]|a[1]", 4);
        reads(x, "a/b/c/d/e/f/g/h|a/b/c/d/e/f/g/h", "a/b/c/d/e/f/g/h|a/b/c/d/e/f/g/h", 2);
        String longest = "a[?%a/%b/%c,?%d/%e/%f,?%g/%h/%*+?%a/%b/%c,?%d/%e/%f,?%g/%h/%*+?%a/%b/%c,?%d/%eb]"
                .replace("%eb]", "%e]") + "|";
        is("length of the longest", longest.length(), 80);
        is("the longest too soon", read(x, 3, longest), -90);
        is("the longest but one byte", read(x, 3, longest.substring(0, 79)), 1);
        is("written", query(x, 3), longest.substring(0, 79));
        isUndoable("read", x, () -> read(x, 0, "//a"));
    }

    private static void written() {
        promise = "promise 12";
        TreeQueries x = new TreeQueries();
        read(x, 3, "//a[-=3]");
        String due = "/#*/a[-=3]";
        for (int i = 0; i < due.length(); i++) {
            is("byte " + i, x.written(3, i), due.charAt(i));
        }
        is("behind it", x.written(3, 10), -1);
        is("far behind it", x.written(3, MOST), -1);
        refuses("place 4", INDEX, x, () -> x.written(4, -1));
        refuses("place -1", INDEX, x, () -> x.written(-1, 0));
        refuses("index -1", ARGUMENT, x, () -> x.written(3, -1));
        refuses("index -1 and no query", ARGUMENT, x, () -> x.written(0, -1));
        refuses("no query", STATE, x, () -> x.written(0, 0));
    }

    private static void size() {
        promise = "promise 13";
        TreeQueries x = new TreeQueries();
        String[] texts = {"a", "//a[1,-=2+?b/c/d][$]|b[?a]/c", "a[=1,=2,=3+=4,=5,=6+=7,=8,=9][?*][?*]", "a[=1]/b[-$]"};
        int[][] due = {{1, 1, 0, 0, 0, 1}, {2, 4, 3, 5, 1, 30}, {1, 1, 3, 11, 0, 37}, {1, 2, 2, 2, 1, 11}};
        for (int place = 0; place < 4; place++) {
            read(x, place, texts[place]);
            for (int what = 0; what < 6; what++) {
                is(texts[place] + ", size " + what, x.size(place, what), due[place][what]);
            }
        }
        x.drop(1);
        refuses("place 4", INDEX, x, () -> x.size(4, 9));
        refuses("place -1", INDEX, x, () -> x.size(-1, 0));
        refuses("what 6", ARGUMENT, x, () -> x.size(0, 6));
        refuses("what -1", ARGUMENT, x, () -> x.size(0, -1));
        refuses("what 6 and no query", ARGUMENT, x, () -> x.size(1, 6));
        refuses("no query", STATE, x, () -> x.size(1, 0));
    }

    private static void unite() {
        promise = "promise 14";
        TreeQueries x = grown();
        read(x, 0, "a|b");
        read(x, 1, "//c[1]");
        is("paths", x.unite(2, 0, 1), 3);
        is("union", query(x, 2), "a|b|/#*/c[1]");
        is("on the first", x.unite(0, 0, 1), 3);
        is("union", query(x, 0), "a|b|/#*/c[1]");
        is("on the second", x.unite(1, 2, 1), 4);
        is("union", query(x, 1), "a|b|/#*/c[1]|/#*/c[1]");
        read(x, 3, "h");
        is("with itself", x.unite(3, 3, 3), 2);
        is("union", query(x, 3), "h|h");
        refuses("five paths", STATE, x, () -> x.unite(3, 0, 3));
        refuses("eight paths", STATE, x, () -> x.unite(0, 1, 1));
        x.drop(2);
        isUndoable("unite", x, () -> x.unite(2, 3, 3));
        refuses("no first", STATE, x, () -> x.unite(0, 2, 3));
        refuses("no second", STATE, x, () -> x.unite(0, 3, 2));
        refuses("place 4", INDEX, x, () -> x.unite(4, 2, 2));
        refuses("first 4", INDEX, x, () -> x.unite(0, 4, 2));
        refuses("second -1", INDEX, x, () -> x.unite(0, 2, -1));
    }

    private static void drop() {
        promise = "promise 15";
        TreeQueries x = grown();
        read(x, 3, "a");
        isUndoable("drop", x, () -> x.drop(3));
        isUndoable("drop of nothing", x, () -> x.drop(2));
        is("a query", x.drop(3), 1);
        is("none", x.drop(3), 0);
        is("query", String.valueOf(query(x, 3)), "null");
        refuses("place 4", INDEX, x, () -> x.drop(4));
        refuses("place -1", INDEX, x, () -> x.drop(-1));
    }

    private static void count() {
        promise = "promise 16";
        TreeQueries x = grown();
        selects(x, "a", 1, "2");
        selects(x, "*", 0, "1 5");
        selects(x, "/a", 4, "");
        selects(x, "/.*", 4, "0");
        selects(x, "/b/*", 7, "2 3");
        selects(x, "b/a", 0, "2");
        selects(x, "//a[1]", 4, "2 4 6");
        selects(x, "%a", 0, "2 4 6");
        selects(x, "#a", 0, "0 2 4 6");
        selects(x, "%b/^*", 0, "0 1 5");
        selects(x, "~*", 4, "0 1 3");
        selects(x, "{*", 5, "1 2 3 4");
        selects(x, "}b", 2, "3 7");
        selects(x, "<*", 7, "6");
        selects(x, ">*", 1, "5");
        selects(x, "h", 0, "");
        selects(x, "a|%a|.*", 1, "1 2 4");
        selects(x, "%*|/c", 1, "2 3 4 5");
        selects(x, "%*/~*/%*", 3, "1 2 3 4 5 6 7");
        selects(x, "{*[1]/{*[1]/{*[1]", 7, "2");
        refuses("place 4", INDEX, x, () -> x.count(4, 0));
        refuses("place -1", INDEX, x, () -> x.count(-1, 0));
        refuses("context 8", INDEX, x, () -> x.count(0, 8));
        refuses("context -1 and no query", INDEX, x, () -> x.count(1, -1));
        refuses("no query", STATE, x, () -> x.count(1, 0));
        TreeQueries wide = full();
        read(wide, 0, "#*");
        is("40 nodes", wide.count(0, 0), 40);
    }

    private static void predicates() {
        promise = "promise 16, predicates";
        TreeQueries x = grown();
        selects(x, "%*[1]", 0, "1");
        selects(x, "%*[7]", 0, "7");
        selects(x, "%*[8]", 0, "");
        selects(x, "%*[$]", 0, "7");
        selects(x, "%*[-1]", 5, "7");
        selects(x, "%*[-$]", 5, "6");
        selects(x, "~*[1]", 4, "3");
        selects(x, "~*[$]", 4, "0");
        selects(x, "{*[2]", 7, "4");
        selects(x, "{*[$]", 7, "1");
        selects(x, "<*[1]|<*[$]", 3, "2");
        selects(x, "}*[1]", 4, "5");
        selects(x, "#*[1]", 3, "3");
        selects(x, "%a[2]", 0, "4");
        selects(x, "%*[=5]", 0, "4");
        selects(x, "%*[=0]", 0, "");
        selects(x, "%*[-=5]", 1, "2 3");
        selects(x, "%*[?a]", 0, "1 3 5");
        selects(x, "#*[?b/b]", 0, "0");
        selects(x, "#*[-?*]", 0, "2 4 6 7");
        selects(x, "%*[?^c]", 0, "6 7");
        selects(x, "%*[?~b/>c]", 0, "2 3 4");
        selects(x, "%*[?*,-?b]", 0, "3");
        selects(x, "%*[?b,?a+=5]", 0, "1 4 5");
        selects(x, "%*[?a,=4+-?*]", 0, "2 3 4 6 7");
        selects(x, "%*[1+$]", 0, "1 7");
        selects(x, "%*[1,$]", 0, "");
        selects(x, "%*[1+2,3+=7,$,-1]", 0, "1 7");
        selects(x, "%*[-=3][2]", 0, "3");
        selects(x, "%*[2][=3]", 0, "2");
        selects(x, "%*[2][1][$]", 0, "2");
        selects(x, "*/*[1]", 0, "2 6");
        selects(x, "%*/~*[1]", 0, "0 1 3 5");
        TreeQueries wide = full();
        read(wide, 0, "*[9]");
        is("the ninth of 39", chosen(wide, 0, 0), "9");
        read(wide, 0, "<*[9]");
        is("the ninth before 39", chosen(wide, 0, 39), "30");
        read(wide, 0, "*[$]");
        is("the last of 39", chosen(wide, 0, 0), "39");
    }

    private static void selected() {
        promise = "promise 17";
        TreeQueries x = grown();
        read(x, 2, "{*");
        is("first in document order", x.selected(2, 5, 0), 1);
        is("last", x.selected(2, 5, 3), 4);
        is("behind the last", x.selected(2, 5, 4), -1);
        is("far behind", x.selected(2, 5, MOST), -1);
        is("from the root", x.selected(2, 0, 0), -1);
        refuses("place 4", INDEX, x, () -> x.selected(4, 0, -1));
        refuses("context 8", INDEX, x, () -> x.selected(2, 8, -1));
        refuses("context -1", INDEX, x, () -> x.selected(0, -1, 0));
        refuses("index -1", ARGUMENT, x, () -> x.selected(2, 0, -1));
        refuses("index -1 and no query", ARGUMENT, x, () -> x.selected(0, 0, -1));
        refuses("no query", STATE, x, () -> x.selected(0, 0, 0));
    }

    private static void sum() {
        promise = "promise 18";
        TreeQueries x = grown();
        read(x, 1, "#*");
        is("all", x.sum(1, 0), 28);
        is("below 1", x.sum(1, 1), 13);
        read(x, 1, "%*[?^b]|%*|h");
        is("each once", x.sum(1, 1), 12);
        is("none", x.sum(1, 7), 0);
        x.setNode(4, 0, 9);
        is("with another value", x.sum(1, 1), 16);
        refuses("place 4", INDEX, x, () -> x.sum(4, 0));
        refuses("context 8", INDEX, x, () -> x.sum(1, 8));
        refuses("context -1 and no query", INDEX, x, () -> x.sum(0, -1));
        refuses("no query", STATE, x, () -> x.sum(0, 0));
    }

    private static void given() {
        promise = "promise 19";
        TreeQueries x = grown();
        read(x, 0, "h/%*[-1]|//a");
        is("a step alone", x.given(0, 0, 1, 0), 6);
        is("for another node", x.given(0, 0, 1, 5), 1);
        is("the first step", x.given(0, 0, 0, 0), 0);
        is("a step #*", x.given(0, 1, 0, 1), 4);
        is("the last step", x.given(0, 1, 1, 5), 1);
        refuses("place 4", INDEX, x, () -> x.given(4, 0, 0, 0));
        refuses("node 8", INDEX, x, () -> x.given(0, 9, 9, 8));
        refuses("node -1 and no query", INDEX, x, () -> x.given(1, 0, 0, -1));
        refuses("no query", STATE, x, () -> x.given(1, 9, 9, 0));
        refuses("path 2", ARGUMENT, x, () -> x.given(0, 2, 0, 0));
        refuses("path -1", ARGUMENT, x, () -> x.given(0, -1, 0, 0));
        refuses("most path", ARGUMENT, x, () -> x.given(0, MOST, 0, 0));
        refuses("step 2", ARGUMENT, x, () -> x.given(0, 0, 2, 0));
        refuses("step -1", ARGUMENT, x, () -> x.given(0, 1, -1, 0));
    }

    private static void differences() {
        promise = "promise 20";
        TreeQueries x = grown();
        read(x, 0, "b/a");
        read(x, 1, "//a[1]");
        read(x, 2, "%a");
        read(x, 3, "#*/a");
        is("all contexts", x.differences(0, 1), 8);
        is("with itself", x.differences(1, 1), 0);
        is("another writing", x.differences(2, 3), 0);
        is("some contexts", x.differences(0, 2), 4);
        is("the other way round", x.differences(2, 0), 4);
        x.drop(1);
        refuses("no first", STATE, x, () -> x.differences(1, 0));
        refuses("no second", STATE, x, () -> x.differences(0, 1));
        refuses("first 4", INDEX, x, () -> x.differences(4, 1));
        refuses("second -1", INDEX, x, () -> x.differences(1, -1));
    }

    /** Rewrites a text; the uses are told as rules, one sign for each use, ordered by rule. */
    private static void rewrites(String text, String due, String rules) {
        TreeQueries x = grown();
        is("read " + text, read(x, 1, text) > 0, true);
        StringBuilder used = new StringBuilder();
        for (int rule = 1; rule <= 9; rule++) {
            used.append(String.valueOf(rule).repeat(x.uses(1, rule)));
        }
        is("uses of " + text, used.toString(), rules);
        is("rewrite " + text, x.rewrite(1), rules.length());
        is("rewritten " + text, query(x, 1), due);
        is("rewrite again " + text, x.rewrite(1), 0);
    }

    private static void stays(String text) {
        rewrites(text, text, "");
    }

    private static void rewriteSteps() {
        promise = "promise 21, rules 1 to 5";
        rewrites(".*/a/.*", "a", "11");
        rewrites(".*/.*", ".*", "1");
        rewrites("/.*/a", "/a", "1");
        stays(".*");
        stays("/.*");
        stays(".a/b");
        stays("a/.*[1]");
        rewrites("//a", "/%a", "2");
        rewrites("a//b", "a/%b", "2");
        rewrites("#*/a[=1]/#*/b[?c]", "%a[=1]/%b[?c]", "22");
        stays("/#*/a[1]");
        stays("#*/a[=1,-$]");
        stays("#*[=1]/a");
        stays("#a/b");
        stays("%*/b");
        rewrites("//%b", "/%b", "3");
        rewrites("//#b[=1]", "/#b[=1]", "3");
        rewrites("//#*", "/#*", "3");
        rewrites("//#*/%b", "/%b", "33");
        stays("#*/%b[2]");
        stays("#*/#b[=1][$]");
        stays("#*/>a");
        stays("#*/^*");
        rewrites("a/^*", ".*[?a]", "4");
        rewrites("/*/^*/b", "/.*[?*]/b", "4");
        rewrites("b/a/^*", "b[?a]", "45");
        stays("a[=1]/^*");
        stays("a/^*[=1]");
        stays("a/^b");
        stays("%a/^*");
        stays("a/~*");
        rewrites("a[1]/.*[=1]", "a[1][=1]", "5");
        rewrites("a[=1][=2]/.*[-=3]", "a[=1][=2][-=3]", "5");
        rewrites("a/.*[=1][=2][=3]", "a[=1][=2][=3]", "5");
        rewrites("a/.*[=1]/.*[=2]/.*[=3]/.*[=4]", "a[=1][=2][=3]/.*[=4]", "555");
        stays("a[=1][=2]/.*[=3][=4]");
        stays(".*[=1]/a");
        stays("a/.b[=1]");
        stays("a/.*[=1][1]");
    }

    private static void rewritePredicates() {
        promise = "promise 21, rules 6 to 9";
        rewrites("a[?.*,=1]", "a[=1]", "6");
        rewrites("a[=1,?.*,$]", "a[=1,$]", "6");
        rewrites("a[=1+2,?.*+?.*,3,?.*]", "a[=1+2+3]", "666");
        stays("a[-?.*,=1]");
        stays("a[?.a,=1]");
        stays("a[?.*/.*,=1]");
        stays("a[?#*,=1]");
        rewrites("a[?.*]", "a", "7");
        rewrites("a[1][2+?.*][3]", "a[1][3]", "7");
        rewrites("a[?.*,?.*]", "a", "67");
        rewrites("a/.*[?.*]", "a", "57");
        rewrites(".*[?.*]/a", "a", "17");
        stays("a[-?.*]");
        rewrites("a[=1][=1]", "a[=1]", "8");
        rewrites("a[=1,-?b+?c/d][=1,-?b+?c/d][=1,-?b+?c/d]", "a[=1,-?b+?c/d]", "88");
        rewrites("a[1][=1][=1]", "a[1][=1]", "8");
        stays("a[1][1]");
        stays("a[=1+$][=1+$]");
        stays("a[=1][=2][=1]");
        stays("a[=1,=2][=1+=2]");
        stays("a[=1][-=1]");
        stays("a[?b/c][?b]");
        rewrites("a|a", "a", "9");
        rewrites("a|b|a|b", "a|b", "99");
        rewrites("a|b|b|b", "a|b", "99");
        rewrites("//a|b|/%a", "/%a|b", "29");
        rewrites("a[=1][=1]|a/.*[=1]", "a[=1]", "589");
        stays("a|/a");
        stays("a|%a");
        stays("a[1]|a[2]");
        stays("a/b|a");
    }

    private static void rewrite() {
        promise = "promise 21";
        rewrites("#*/a/^*", "%a/^*", "2");
        rewrites("a/^*/.*[?.*]", ".*[?a]", "457");
        rewrites("a/^*/.*[?.*,=2+=3][?b][?b]|%a|.*/%a", ".*[?a][=2+=3][?b]|%a", "145689");
        rewrites("a[?.*]/^*[=1+?.*]/.*[1]", ".*[?a]/.*[1]", "477");
        rewrites("a//.*/b", "a/%b", "12");
        // The fourth predicate keeps rule 5 away until rule 8 has made room.
        rewrites("a[=1][=1]/.*[=2][=2]", "a[=1][=2]", "588");
        TreeQueries x = grown();
        read(x, 0, "//a|//a");
        isUndoable("rewrite", x, () -> x.rewrite(0));
        x.rewrite(0);
        isUndoable("rewrite that changes nothing", x, () -> x.rewrite(0));
        refuses("place 4", INDEX, x, () -> x.rewrite(4));
        refuses("place -1", INDEX, x, () -> x.rewrite(-1));
        refuses("no query", STATE, x, () -> x.rewrite(3));
    }

    private static void uses() {
        promise = "promise 22";
        TreeQueries x = grown();
        read(x, 0, ".*/a/.*|//a");
        is("rule 1", x.uses(0, 1), 2);
        is("rule 1 again", x.uses(0, 1), 2);
        is("rule 2", x.uses(0, 2), 1);
        is("rule 9", x.uses(0, 9), 0);
        is("query", query(x, 0), ".*/a/.*|/#*/a");
        refuses("place 4", INDEX, x, () -> x.uses(4, 0));
        refuses("place -1", INDEX, x, () -> x.uses(-1, 1));
        refuses("rule 0", ARGUMENT, x, () -> x.uses(0, 0));
        refuses("rule 10", ARGUMENT, x, () -> x.uses(0, 10));
        refuses("rule 0 and no query", ARGUMENT, x, () -> x.uses(1, 0));
        refuses("no query", STATE, x, () -> x.uses(1, 1));
    }

    private static void undo() {
        promise = "promise 23";
        TreeQueries x = new TreeQueries();
        x.addNode(0, 1, 1);
        is("one state", x.undo(), 0);
        is("tree", tree(x), "a0^-1");
        refuses("no state", STATE, x, x::undo);
        List<String> states = new ArrayList<>();
        for (int i = 0; i < 7; i++) {
            states.add(shown(x));
            if (i % 2 == 0) {
                x.addNode(0, i, i);
            } else {
                read(x, i % 4, "a[=" + i + "]");
            }
        }
        for (int left = 3; left >= 0; left--) {
            is("states left", x.undo(), left);
            is("state", shown(x), states.get(left + 3));
        }
        refuses("a fifth state", STATE, x, x::undo);
        is("the text stays", x.clearText(), 5);
        x.setNode(0, 7, 7);
        is("after it one more", x.undo(), 0);
        is("tree", shown(x), states.get(3));
        TreeQueries y = grown();
        read(y, 0, "//a");
        y.rewrite(0);
        y.moveNode(1, 5);
        y.removeNode(1);
        y.drop(0);
        is("drop undone", y.undo(), 3);
        is("query", query(y, 0), "/%a");
        y.undo();
        y.undo();
        is("move undone", tree(y), tree(grown()));
        y.undo();
        is("rewrite undone", query(y, 0), "/#*/a");
        is("selection then", chosen(y, 0, 0), "2 4 6");
    }

    private static void digest() {
        promise = "promise 24";
        TreeQueries x = grown();
        is("without queries", x.digest(), digestByCalls(x, 4, 0));
        read(x, 0, "//a[1]|.*/b|b");
        read(x, 2, "a[?.*][=1][=1]/^*");
        x.unite(3, 0, 2);
        x.type('a');
        is("with queries", x.digest(), digestByCalls(x, 4, 18));
        x.undo();
        is("after undo", x.digest(), digestByCalls(x, 3, 18));
        is("again", x.digest(), digestByCalls(x, 3, 18));
        is("the tree as in the shared test", digestOfSharedRun(), -3629117573375304454L);
    }

    private static long digestOfSharedRun() {
        TreeQueries x = grown();
        x.moveNode(3, 0);
        x.moveNode(1, 7);
        x.moveNode(1, 0);
        x.removeNode(5);
        x.setNode(1, 7, 9);
        x.undo();
        x.undo();
        return x.digest();
    }
}
