import java.util.ArrayList;
import java.util.List;
import java.util.function.Supplier;

/** What the tests share: checks, calls that are refused or undone, and the state of an object told as a text. */
class Checks {
    static final Class<?> INDEX = IndexOutOfBoundsException.class;
    static final Class<?> ARGUMENT = IllegalArgumentException.class;
    static final Class<?> STATE = IllegalStateException.class;
    static final Class<?> UNSUPPORTED = UnsupportedOperationException.class;
    static final int NONE = TreeQueries.NONE;
    static final int LEAST = Integer.MIN_VALUE;
    static final int MOST = Integer.MAX_VALUE;

    private static int checks = 0;
    private static int wrong = 0;
    private static String topic = "";

    interface Call {
        long answer();
    }

    interface CallOn {
        long answer(TreeQueries x);
    }

    interface CallWith {
        long answer(TreeQueries x, int argument);
    }

    // ---- checks

    /** What the next checks are about; it stands in front of what they say. */
    static void topic(String about) {
        topic = about;
    }

    static int checks() {
        return checks;
    }

    static void is(String what, Object got, Object due) {
        checks++;
        if (!due.equals(got)) {
            wrong++;
            System.out.println(topic + ": " + what + " is " + got + ", due is " + due);
        }
    }

    static void is(String what, long got, long due) {
        is(what, (Object) got, (Object) due);
    }

    /** To be called when all checks are made. */
    static void end() {
        System.out.println(wrong == 0 ? checks + " checks hold" : wrong + " of " + checks + " checks fail");
        if (wrong != 0) {
            System.exit(1);
        }
    }

    /** The answer of a call, or the very class that it throws: what the machine throws has a class below these. */
    static String outcome(Call call) {
        try {
            return Long.toString(call.answer());
        } catch (RuntimeException e) {
            return e.getClass().getSimpleName();
        }
    }

    /** A call that throws just this class, and changes nothing. */
    static void refuses(String what, Class<?> due, TreeQueries x, Call call) {
        long before = x.digest();
        is(what, outcome(call), due.getSimpleName());
        is(what + ", digest after it", x.digest(), before);
    }

    /** A call that throws just this class for each argument that lies outside of a range. */
    static void refusesOutside(Class<?> due, TreeQueries x, int low, int high, CallWith call) {
        for (int argument : new int[] {low - 1, LEAST, high + 1, MOST}) {
            refuses("argument " + argument, due, x, () -> call.answer(x, argument));
        }
    }

    /** A call that throws nothing at both ends of a range, each on an object of its own. */
    static void takes(Supplier<TreeQueries> maker, int low, int high, CallWith call) {
        for (int argument : new int[] {low, high}) {
            TreeQueries x = maker.get();
            String got = outcome(() -> call.answer(x, argument));
            is("argument " + argument + " is taken", !got.endsWith("Exception"), true);
        }
    }

    /** A call that saves the state from before it, which undo() brings back. */
    static void isUndoable(String what, Supplier<TreeQueries> maker, CallOn call) {
        int saved = statesOf(maker.get());
        String before = shown(maker.get());
        TreeQueries x = maker.get();
        call.answer(x);
        is(what + ", states left when it is undone", x.undo(), Math.min(4, saved + 1) - 1);
        is(what + ", state when it is undone", shown(x), before);
    }

    /** A call that saves no state. */
    static void savesNothing(String what, Supplier<TreeQueries> maker, CallOn call) {
        TreeQueries x = maker.get();
        outcome(() -> call.answer(x));
        is(what + ", states after it", statesOf(x), statesOf(maker.get()));
    }

    /** The number of saved states; takes all of them. */
    static int statesOf(TreeQueries x) {
        int states = 0;
        while (!outcome(x::undo).endsWith("Exception")) {
            states++;
        }
        return states;
    }

    // ---- the state, told by the face

    /** All that undo() restores. */
    static String shown(TreeQueries x) {
        StringBuilder out = new StringBuilder(tree(x)).append("; ");
        int nodes = x.nodes();
        for (int node = 0; node < nodes; node++) {
            out.append(x.node(node, 3)).append(' ').append(x.node(node, 4)).append(' ').append(x.node(node, 5));
            out.append(", ");
        }
        return out.append(queries(x)).toString();
    }

    /** The queries of all places, one behind the other. */
    static String queries(TreeQueries x) {
        StringBuilder out = new StringBuilder();
        for (int place = 0; place < 4; place++) {
            out.append(place > 0 ? " " : "").append(query(x, place));
        }
        return out.toString();
    }

    /** Each node as its name, value and parent. */
    static String tree(TreeQueries x) {
        StringBuilder out = new StringBuilder();
        int nodes = x.nodes();
        for (int node = 0; node < nodes; node++) {
            out.append(node > 0 ? " " : "").append((char) ('a' + x.node(node, 0))).append(x.node(node, 1));
            out.append('^').append(x.node(node, 2));
        }
        return out.toString();
    }

    /** The query at a place as it is written; "null" if there is none. */
    static String query(TreeQueries x, int place) {
        StringBuilder out = new StringBuilder();
        try {
            for (int sign = x.written(place, 0); sign != NONE; sign = x.written(place, out.length())) {
                out.append((char) sign);
            }
        } catch (IllegalStateException e) {
            return "null";
        }
        return out.toString();
    }

    /** The nodes that the query at a place selects from a context, as a text like "1 4 6". */
    static String chosen(TreeQueries x, int place, int context) {
        StringBuilder out = new StringBuilder();
        int index = 0;
        for (int node = x.selected(place, context, 0); node != NONE; node = x.selected(place, context, index)) {
            out.append(index > 0 ? " " : "").append(node);
            index++;
        }
        return out.toString();
    }

    /** The nodes of an axis, in the same way. */
    static String along(TreeQueries x, int node, int axis) {
        StringBuilder out = new StringBuilder();
        int index = 0;
        for (int found = x.axis(node, axis, 0); found != NONE; found = x.axis(node, axis, index)) {
            out.append(index > 0 ? " " : "").append(found);
            index++;
        }
        return out.toString();
    }

    /** The digest of an object that has so many saved states and so long a text. */
    static void isDigested(String what, Supplier<TreeQueries> maker, int saved, int length) {
        is(what + ", digest", maker.get().digest(), digestByCalls(maker.get(), saved, length));
    }

    /** The digest as it follows from the other calls, with a number of states and a length of the text. */
    static long digestByCalls(TreeQueries x, int saved, int length) {
        long h = 18335;
        for (int value : digestValues(x, saved, length)) {
            h = 31 * h + value;
        }
        return h;
    }

    static List<Integer> digestValues(TreeQueries x, int saved, int length) {
        int nodes = x.nodes();
        List<Integer> values = new ArrayList<>(List.of(saved, length, nodes));
        for (int node = 0; node < nodes; node++) {
            for (int what = 0; what <= 5; what++) {
                values.add(x.node(node, what));
            }
        }
        for (int place = 0; place < 4; place++) {
            String query = query(x, place);
            values.add(query.equals("null") ? 0 : 1);
            if (!query.equals("null")) {
                addQueryValues(values, x, place, query, nodes);
            }
        }
        return values;
    }

    private static void addQueryValues(List<Integer> values, TreeQueries x, int place, String query, int nodes) {
        for (int what = 0; what <= 5; what++) {
            values.add(x.size(place, what));
        }
        for (int i = 0; i < query.length(); i++) {
            values.add((int) query.charAt(i));
        }
        for (int context = 0; context < nodes; context++) {
            values.add(x.count(place, context));
            values.add(x.sum(place, context));
        }
        for (int rule = 1; rule <= 9; rule++) {
            values.add(x.uses(place, rule));
        }
    }

    // ---- objects to begin with

    /**
     * <pre>
     * 0 a0
     *   1 b1
     *     2 a3
     *     3 b4
     *       4 a5
     *   5 c2
     *     6 a6
     *     7 b7
     * </pre>
     */
    static TreeQueries grown() {
        TreeQueries x = new TreeQueries();
        x.addNode(0, 1, 1);
        x.addNode(0, 2, 2);
        x.addNode(1, 0, 3);
        x.addNode(1, 1, 4);
        x.addNode(3, 0, 5);
        x.addNode(5, 0, 6);
        x.addNode(5, 1, 7);
        return x;
    }

    /** A root with children: as many nodes as told. */
    static TreeQueries wide(int nodes) {
        TreeQueries x = new TreeQueries();
        for (int i = 1; i < nodes; i++) {
            x.addNode(0, i % 8, i % 10);
        }
        return x;
    }

    /** Each node the only child of the one before. */
    static TreeQueries chain(int nodes) {
        TreeQueries x = new TreeQueries();
        for (int i = 1; i < nodes; i++) {
            x.addNode(i - 1, i % 8, i % 10);
        }
        return x;
    }

    /** The grown tree with queries at the first places. */
    static TreeQueries grownWith(String... texts) {
        TreeQueries x = grown();
        for (int place = 0; place < texts.length; place++) {
            read(x, place, texts[place]);
        }
        return x;
    }

    static void type(TreeQueries x, String text) {
        x.clearText();
        for (int i = 0; i < text.length(); i++) {
            x.type(text.charAt(i));
        }
    }

    static int read(TreeQueries x, int place, String text) {
        type(x, text);
        return x.read(place);
    }

    // ---- queries

    /** A text that is refused, and changes nothing. */
    static void fault(String text, int fault) {
        TreeQueries x = grownWith("h");
        type(x, text);
        long before = x.digest();
        is("read " + text, x.read(0), -10L - fault);
        is("digest after " + text, x.digest(), before);
    }

    /** A text that is read, and written as it is due. */
    static void reads(String text, String due, int paths) {
        TreeQueries x = new TreeQueries();
        is("read " + text, read(x, 2, text), paths);
        is("written " + text, query(x, 2), due);
    }

    static void selects(TreeQueries x, String text, int context, String due) {
        is("read " + text, read(x, 0, text) > 0, true);
        is(text + " from " + context, chosen(x, 0, context), due);
        is(text + " from " + context + ", count", x.count(0, context), due.isEmpty() ? 0 : due.split(" ").length);
    }

    /** Rewrites a text; the uses are told as rules, one sign for each use, ordered by rule. */
    static void rewrites(String text, String due, String rules) {
        TreeQueries x = grown();
        is("read " + text, read(x, 1, text) > 0, true);
        StringBuilder used = new StringBuilder();
        for (int rule = 1; rule <= 9; rule++) {
            used.append(String.valueOf(rule).repeat(x.uses(1, rule)));
        }
        is("uses of " + text, used.toString(), rules);
        is("rewrite " + text, x.rewrite(1), rules.length());
        is("rewritten " + text, query(x, 1), due);
        is("rewrite again " + text, x.rewrite(1), 0);
    }

    /** A text that no rule changes. */
    static void stays(String text) {
        rewrites(text, text, "");
    }
}
