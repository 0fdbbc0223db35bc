import java.util.ArrayList;
import java.util.List;
import java.util.function.Supplier;

/** The sentences about undoing, exceptions and constants. */
final class UndoSentences extends Sentences {
    private UndoSentences() {
    }

    static void look() {
        undo();
        depth();
        exceptions();
        constants();
    }

    private static TreeQueries withQueries() {
        return grownWith("//a|b", "c[1]");
    }

    private static TreeQueries fresh() {
        TreeQueries x = new TreeQueries();
        type(x, "a");
        return x;
    }

    private static void undo() {
        section("UNDO");
        sentence("Every method that is marked \"undoable\" saves the whole state but the text on an undo stack when it ends "
                + "normally, also if it changes nothing.");
        Supplier<TreeQueries> maker = UndoSentences::withQueries;
        isUndoable("addNode", maker, x -> x.addNode(3, 7, 9));
        isUndoable("removeNode", maker, x -> x.removeNode(1));
        isUndoable("moveNode", maker, x -> x.moveNode(1, 7));
        isUndoable("moveNode to its place", maker, x -> x.moveNode(5, 0));
        isUndoable("setNode", maker, x -> x.setNode(4, 7, 9));
        isUndoable("setNode as it is", maker, x -> x.setNode(4, 0, 5));
        isUndoable("read", maker, x -> x.read(0));
        isUndoable("read as it is", maker, x -> x.read(1));
        isUndoable("unite", maker, x -> x.unite(3, 0, 1));
        isUndoable("drop", maker, x -> x.drop(0));
        isUndoable("drop of nothing", maker, x -> x.drop(3));
        isUndoable("rewrite", maker, x -> x.rewrite(0));
        isUndoable("rewrite of nothing", maker, x -> x.rewrite(1));
        isUndoable("the first of all", UndoSentences::fresh, x -> x.drop(3));
        savesNothing("type", UndoSentences::fresh, x -> x.type('a'));
        savesNothing("clearText", UndoSentences::fresh, x -> x.clearText());
        savesNothing("what only answers", UndoSentences::fresh, x -> x.nodes() + x.node(0, 0) + x.axis(0, 0, 0));
        savesNothing("digest", UndoSentences::fresh, x -> x.digest());
        savesNothing("read with a fault", TreeQueries::new, x -> x.read(0));
        savesNothing("a refused addNode", UndoSentences::fresh, x -> x.addNode(1, 0, 0));
        savesNothing("a refused removeNode", UndoSentences::fresh, x -> x.removeNode(0));
        savesNothing("a refused moveNode", UndoSentences::fresh, x -> x.moveNode(0, 0));
        savesNothing("a refused setNode", UndoSentences::fresh, x -> x.setNode(0, 8, 0));
        savesNothing("a refused read", UndoSentences::fresh, x -> x.read(4));
        savesNothing("a refused unite", UndoSentences::fresh, x -> x.unite(0, 0, 0));
        savesNothing("a refused drop", UndoSentences::fresh, x -> x.drop(4));
        savesNothing("a refused rewrite", UndoSentences::fresh, x -> x.rewrite(0));
        TreeQueries x = fresh();
        x.read(0);
        savesNothingMore("uses", x, () -> x.uses(0, 1));
        savesNothingMore("written", x, () -> x.written(0, 0));
        savesNothingMore("size", x, () -> x.size(0, 5));
        savesNothingMore("count", x, () -> x.count(0, 0));
        savesNothingMore("selected", x, () -> x.selected(0, 0, 0));
        savesNothingMore("sum", x, () -> x.sum(0, 0));
        savesNothingMore("given", x, () -> x.given(0, 0, 0, 0));
        savesNothingMore("differences", x, () -> x.differences(0, 0));
        isWholeAfter(y -> y.moveNode(1, 7));
        isWholeAfter(y -> y.removeNode(3));
        isWholeAfter(y -> y.addNode(1, 0, 0));
        TreeQueries y = withQueries();
        type(y, "h[9]");
        y.drop(0);
        type(y, "g/h");
        y.undo();
        is("the length of the text stays", y.clearText(), 3);
        type(y, "g/h");
        y.undo();
        is("the bytes of the text stay", y.read(2) + query(y, 2), "1g/h");

        sentence("The saved state is the one from before the call.");
        TreeQueries z = grown();
        z.setNode(0, 1, 1);
        z.setNode(0, 2, 2);
        z.undo();
        is("node 0 is what it was before the second call", tree(z).substring(0, 2), "b1");
        z.undo();
        is("node 0 is what it was before the first call", tree(z), tree(grown()));
        TreeQueries q = withQueries();
        q.rewrite(0);
        q.unite(0, 0, 0);
        q.undo();
        is("the query before the union", query(q, 0), "/%a|b");
        q.undo();
        is("the query before it was rewritten", query(q, 0), "/#*/a|b");
        is("what it selects", chosen(q, 0, 0), "1 2 4 6");
    }

    /** All axes are again what they were before a call. */
    private static void isWholeAfter(CallOn call) {
        TreeQueries before = grown();
        TreeQueries x = grown();
        call.answer(x);
        x.undo();
        for (int node = 0; node < 8; node++) {
            for (int axis = 0; axis < 10; axis++) {
                is("axis " + axis + " of " + node, along(x, node, axis), along(before, node, axis));
            }
        }
    }

    private static void savesNothingMore(String what, TreeQueries x, Call call) {
        long before = x.digest();
        call.answer();
        is(what + ", digest after it", x.digest(), before);
    }

    private static void depth() {
        sentence("The stack keeps the latest 4 saved states and drops older ones.");
        for (int saved = 0; saved <= 9; saved++) {
            TreeQueries x = new TreeQueries();
            for (int call = 0; call < saved; call++) {
                x.setNode(0, call % 8, call);
            }
            int kept = Math.min(saved, 4);
            for (int left = kept - 1; left >= 0; left--) {
                is("states left of " + saved, x.undo(), left);
                int calls = saved - kept + left;
                is("value after " + calls + " calls", x.node(0, 1), Math.max(calls - 1, 0));
            }
            refuses("one more of " + saved, STATE, x, x::undo);
        }
        TreeQueries x = new TreeQueries();
        List<String> due = new ArrayList<>();
        // Undone and done again, so that the stack grows and shrinks at every length.
        for (int call = 0; call < 60; call++) {
            if (!due.isEmpty() && (call % 5 == 3 || call % 7 >= 4)) {
                String before = due.remove(due.size() - 1);
                is("states left in call " + call, x.undo(), due.size());
                is("state in call " + call, tree(x), before);
            } else {
                due.add(tree(x));
                x.setNode(0, call % 8, call % 10);
                if (due.size() > 4) {
                    due.remove(0);
                }
            }
        }
    }

    private static void exceptions() {
        section("EXCEPTIONS");
        sentence("A call that throws an exception changes nothing.");
        TreeQueries x = withQueries();
        type(x, "/");
        String before = shown(x);
        long digest = x.digest();
        for (Call call : refusedCalls(x)) {
            is("a call is refused", outcome(call).endsWith("Exception"), true);
            is("digest after it", x.digest(), digest);
        }
        is("state after all of them", shown(x), before);
        x.type('a');
        x.read(3);
        is("the text after all of them", query(x, 3), "/a");
        TreeQueries same = withQueries();
        type(same, "/a");
        same.read(3);
        for (int left = 3; left >= 0; left--) {
            is("states left", x.undo(), left);
            same.undo();
            is("state with " + left + " left", shown(x), shown(same));
        }

        sentence("If several exceptions of a method apply, the one that is listed first is thrown.");
        firstOfTree(wide(40));
        firstOfQueries(grownWith("a"));

        sentence("NONE is returned only if no exception applies.");
        TreeQueries y = grownWith("a");
        is("no parent", y.node(0, 2), NONE);
        refuses("no parent of no node", INDEX, y, () -> y.node(8, 2));
        is("no such axis node", y.axis(0, 0, 2), NONE);
        refuses("none of no axis", ARGUMENT, y, () -> y.axis(0, 10, 2));
        refuses("none of no node", INDEX, y, () -> y.axis(8, 0, 2));
        is("no such byte", y.written(0, 1), NONE);
        refuses("no byte of no query", STATE, y, () -> y.written(1, 1));
        is("none selected", y.selected(0, 0, 0), NONE);
        refuses("none selected by no query", STATE, y, () -> y.selected(1, 0, 0));
        refuses("none selected from no node", INDEX, y, () -> y.selected(0, 8, 0));
    }

    private static List<Call> refusedCalls(TreeQueries x) {
        return List.of(() -> x.addNode(8, 0, 0), () -> x.addNode(0, 8, 0), () -> x.addNode(0, 0, 10),
                () -> x.removeNode(8), () -> x.removeNode(0), () -> x.moveNode(8, 0), () -> x.moveNode(1, 8),
                () -> x.moveNode(1, 4), () -> x.moveNode(0, 7), () -> x.setNode(8, 0, 0), () -> x.setNode(0, 8, 0),
                () -> x.setNode(0, 1, 10), () -> x.node(8, 0), () -> x.node(0, 6), () -> x.axis(8, 0, 0),
                () -> x.axis(0, 10, 0), () -> x.axis(0, 0, -1), () -> x.type(128), () -> x.type(-1), () -> x.read(4),
                () -> x.read(-1), () -> x.written(4, 0), () -> x.written(0, -1), () -> x.written(2, 0),
                () -> x.size(4, 0), () -> x.size(0, 6), () -> x.size(2, 0), () -> x.unite(4, 0, 1),
                () -> x.unite(0, 1, 2), () -> x.unite(1, 2, 0), () -> x.drop(4), () -> x.drop(-1),
                () -> x.count(4, 0), () -> x.count(0, 8), () -> x.count(2, 0), () -> x.selected(0, 0, -1),
                () -> x.selected(2, 0, 0), () -> x.sum(0, 8), () -> x.sum(2, 0), () -> x.given(0, 2, 0, 0),
                () -> x.given(0, 0, 2, 0), () -> x.given(2, 0, 0, 0), () -> x.differences(0, 4),
                () -> x.differences(0, 2), () -> x.rewrite(4), () -> x.rewrite(2), () -> x.uses(0, 0),
                () -> x.uses(0, 10), () -> x.uses(2, 1));
    }

    private static void firstOfTree(TreeQueries full) {
        refuses("addNode, all", INDEX, full, () -> full.addNode(40, 8, 10));
        refuses("addNode, no parent in a full tree", INDEX, full, () -> full.addNode(-1, 0, 0));
        refuses("addNode, no parent and a wrong name", INDEX, full, () -> full.addNode(40, 8, 0));
        refuses("addNode, a wrong name in a full tree", ARGUMENT, full, () -> full.addNode(0, -1, 0));
        refuses("addNode, a wrong value in a full tree", ARGUMENT, full, () -> full.addNode(0, 0, -1));
        refuses("moveNode, the root to no parent", INDEX, full, () -> full.moveNode(0, 40));
        refuses("moveNode, no node to itself", INDEX, full, () -> full.moveNode(40, 40));
        refuses("setNode, no node and a wrong name", INDEX, full, () -> full.setNode(40, 8, 0));
        refuses("setNode, no node and a wrong value", INDEX, full, () -> full.setNode(-1, 0, 10));
        refuses("node, both", INDEX, full, () -> full.node(40, 6));
        refuses("axis, no node and no axis", INDEX, full, () -> full.axis(-1, 10, 0));
        refuses("axis, no node and a wrong index", INDEX, full, () -> full.axis(40, 0, -1));
        type(full, "a".repeat(80));
        refuses("type, both", ARGUMENT, full, () -> full.type(128));
    }

    private static void firstOfQueries(TreeQueries x) {
        refuses("written, no place and a wrong index", INDEX, x, () -> x.written(4, -1));
        refuses("written, no query and a wrong index", ARGUMENT, x, () -> x.written(1, -1));
        refuses("size, no place and no such value", INDEX, x, () -> x.size(4, 6));
        refuses("size, no query and no such value", ARGUMENT, x, () -> x.size(1, 6));
        refuses("unite, no place and no first", INDEX, x, () -> x.unite(4, 1, 0));
        refuses("unite, no first and no place of the second", INDEX, x, () -> x.unite(0, 1, 4));
        refuses("unite, no second and no place of the first", INDEX, x, () -> x.unite(0, -1, 1));
        refuses("count, no query and no node", INDEX, x, () -> x.count(1, 8));
        refuses("selected, no node and a wrong index", INDEX, x, () -> x.selected(0, 8, -1));
        refuses("selected, no place and a wrong index", INDEX, x, () -> x.selected(4, 0, -1));
        refuses("selected, no query and no node", INDEX, x, () -> x.selected(1, 8, 0));
        refuses("selected, no query and a wrong index", ARGUMENT, x, () -> x.selected(1, 0, -1));
        refuses("sum, no query and no node", INDEX, x, () -> x.sum(1, -1));
        refuses("given, no node and no path", INDEX, x, () -> x.given(0, 1, 0, 8));
        refuses("given, no query and no node", INDEX, x, () -> x.given(1, 0, 0, 8));
        refuses("given, no query, path and step", STATE, x, () -> x.given(1, -1, -1, 0));
        refuses("differences, no first and no place", INDEX, x, () -> x.differences(1, 4));
        refuses("differences, no second and no place", INDEX, x, () -> x.differences(4, 1));
        refuses("uses, no place and no rule", INDEX, x, () -> x.uses(4, 0));
        refuses("uses, no query and no rule", ARGUMENT, x, () -> x.uses(1, 10));
    }

    private static void constants() {
        about("The constants:");
        sentence("- `NONE = -1`: Returned where there is no such value.");
        TreeQueries x = grownWith("h");
        is("NONE", TreeQueries.NONE, -1);
        is("no parent", x.node(0, 2), -1);
        is("no such node of an axis", x.axis(0, 6, 0), -1);
        is("no such byte", x.written(0, 1), -1);
        is("no such node that is selected", x.selected(0, 0, 0), -1);
        about("The constructor and the methods follow, a promise each: the signature, then what it does.");
    }
}
