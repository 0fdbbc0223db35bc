/** The sentences of the promises 1 to 8: the object and its tree. */
final class TreePromises extends Sentences {
    private TreePromises() {
    }

    static void look() {
        newObject();
        addNode();
        removeNode();
        moveNode();
        setNode();
        nodes();
        node();
        axis();
    }

    private static void newObject() {
        section("Promise 1: A new object");
        sentence("Creates an evaluator as described, with four empty places for queries, an empty text and an empty undo "
                + "stack.");
        TreeQueries x = new TreeQueries();
        is("state", shown(x), "a0^-1; 0 0 0, null null null null");
        refusesOutside(INDEX, x, 0, 3, (y, place) -> y.size(place, 0));
        for (int place = 0; place < 4; place++) {
            int query = place;
            refuses("size at " + place, STATE, x, () -> x.size(query, 0));
        }
        refuses("undo", STATE, x, x::undo);
        is("digest", x.digest(), digestByCalls(x, 0, 0));
        is("read", x.read(0), -10);
        is("length of the text", x.clearText(), 0);
        x.addNode(0, 7, 9);
        is("another object", shown(new TreeQueries()), "a0^-1; 0 0 0, null null null null");
    }

    private static void addNode() {
        section("Promise 2: addNode");
        sentence("Adds a node behind the last child of a node. Undoable.");
        TreeQueries x = new TreeQueries();
        x.addNode(0, 1, 1);
        x.addNode(0, 2, 2);
        x.addNode(1, 7, 9);
        x.addNode(1, 0, 0);
        x.addNode(3, 3, 3);
        x.addNode(0, 4, 4);
        is("tree", tree(x), "a0^-1 b1^0 h9^1 a0^1 d3^3 c2^0 e4^0");
        isUndoable("addNode", Checks::grown, y -> y.addNode(3, 1, 1));
        isUndoable("the 40th node", () -> wide(39), y -> y.addNode(0, 1, 1));

        sentence("- `parent`: number of a node");
        takes(Checks::grown, 0, 7, (y, parent) -> y.addNode(parent, 0, 0));
        takes(() -> chain(39), 0, 38, (y, parent) -> y.addNode(parent, 0, 0));

        sentence("- `name`: 0 to 7");
        takes(TreeQueries::new, 0, 7, (y, name) -> y.addNode(0, name, 0));

        sentence("- `value`: 0 to 9");
        takes(TreeQueries::new, 0, 9, (y, value) -> y.addNode(0, 0, value));

        sentence("Returns the number of the new node.");
        TreeQueries y = new TreeQueries();
        is("first child", y.addNode(0, 1, 1), 1);
        is("second child", y.addNode(0, 2, 2), 2);
        is("child of the first", y.addNode(1, 7, 9), 2);
        is("another one", y.addNode(1, 0, 0), 3);
        is("below it", y.addNode(3, 3, 3), 4);
        is("third child", y.addNode(0, 4, 4), 6);
        is("the last of 40", wide(39).addNode(0, 0, 0), 39);
        is("a child of the first of 39", wide(39).addNode(1, 0, 0), 2);

        sentence("Throws `IndexOutOfBoundsException` if there is no such parent");
        refusesOutside(INDEX, new TreeQueries(), 0, 0, (z, parent) -> z.addNode(parent, 0, 0));
        refusesOutside(INDEX, grown(), 0, 7, (z, parent) -> z.addNode(parent, 0, 0));

        sentence("Throws `IllegalArgumentException` if name or value is out of range");
        refusesOutside(ARGUMENT, grown(), 0, 7, (z, name) -> z.addNode(0, name, 0));
        refusesOutside(ARGUMENT, grown(), 0, 9, (z, value) -> z.addNode(0, 0, value));

        sentence("Throws `IllegalStateException` if there are 40 nodes");
        TreeQueries full = wide(40);
        refuses("node 41", STATE, full, () -> full.addNode(0, 0, 0));
        refuses("node 41 below the last", STATE, full, () -> full.addNode(39, 7, 9));
        full.removeNode(7);
        is("the 40th again", full.addNode(38, 5, 5), 39);
        refuses("node 41 again", STATE, full, () -> full.addNode(38, 5, 5));
    }

    private static void removeNode() {
        section("Promise 3: removeNode");
        sentence("Removes a node with all nodes below it. Undoable.");
        TreeQueries x = grown();
        x.removeNode(1);
        is("tree", tree(x), "a0^-1 c2^0 a6^1 b7^1");
        x.removeNode(2);
        is("tree", tree(x), "a0^-1 c2^0 b7^1");
        isUndoable("removeNode", Checks::grown, y -> y.removeNode(1));
        isUndoable("39 of 40", () -> chain(40), y -> y.removeNode(1));

        sentence("- `node`: number of a node");
        takes(Checks::grown, 1, 7, (y, node) -> y.removeNode(node));
        takes(() -> wide(40), 1, 39, (y, node) -> y.removeNode(node));

        sentence("Returns the number of nodes that are left.");
        TreeQueries y = grown();
        is("with all below", y.removeNode(1), 4);
        is("a leaf", y.removeNode(2), 3);
        is("the rest", y.removeNode(1), 1);
        is("39 of 40", chain(40).removeNode(1), 1);
        is("one of 40", chain(40).removeNode(39), 39);

        sentence("Throws `IndexOutOfBoundsException` if there is no such node");
        refusesOutside(INDEX, grown(), 0, 7, (z, node) -> z.removeNode(node));
        refusesOutside(INDEX, wide(40), 0, 39, (z, node) -> z.removeNode(node));

        sentence("Throws `UnsupportedOperationException` if it is the root");
        TreeQueries alone = new TreeQueries();
        refuses("the root alone", UNSUPPORTED, alone, () -> alone.removeNode(0));
        TreeQueries grown = grown();
        refuses("the root of more", UNSUPPORTED, grown, () -> grown.removeNode(0));
    }

    private static void moveNode() {
        section("Promise 4: moveNode");
        sentence("Moves a node with all nodes below it behind the last child of another node. Undoable.");
        TreeQueries x = grown();
        x.moveNode(3, 5);
        is("back", tree(x), "a0^-1 b1^0 a3^1 c2^0 a6^3 b7^3 b4^3 a5^6");
        x.moveNode(6, 1);
        is("forth", tree(x), "a0^-1 b1^0 a3^1 b4^1 a5^3 c2^0 a6^5 b7^5");
        x.moveNode(1, 0);
        is("behind the last child of its parent", tree(x), "a0^-1 c2^0 a6^1 b7^1 b1^0 a3^4 b4^4 a5^6");
        x.moveNode(6, 4);
        is("the last child", tree(x), "a0^-1 c2^0 a6^1 b7^1 b1^0 a3^4 b4^4 a5^6");
        x.moveNode(7, 0);
        is("up", tree(x), "a0^-1 c2^0 a6^1 b7^1 b1^0 a3^4 b4^4 a5^0");
        x.moveNode(7, 2);
        is("below a leaf", tree(x), "a0^-1 c2^0 a6^1 a5^2 b7^1 b1^0 a3^5 b4^5");
        isUndoable("moveNode", Checks::grown, y -> y.moveNode(3, 5));
        isUndoable("moveNode to its place", Checks::grown, y -> y.moveNode(7, 5));

        sentence("- `node`: number of a node");
        takes(Checks::grown, 1, 7, (y, node) -> y.moveNode(node, 0));
        takes(() -> wide(40), 1, 39, (y, node) -> y.moveNode(node, 0));

        sentence("- `parent`: number of the new parent");
        takes(Checks::grown, 0, 7, (y, parent) -> y.moveNode(3, parent));
        takes(() -> wide(40), 0, 39, (y, parent) -> y.moveNode(3, parent));

        sentence("Returns the number of the node then.");
        TreeQueries y = grown();
        is("back", y.moveNode(3, 5), 6);
        is("forth", y.moveNode(6, 1), 3);
        is("behind the last child of its parent", y.moveNode(1, 0), 4);
        is("the last child", y.moveNode(6, 4), 6);
        is("the last of the last", y.moveNode(7, 6), 7);
        is("up", y.moveNode(7, 0), 7);
        is("up again", y.moveNode(6, 0), 7);
        is("the first of 40 to the last", wide(40).moveNode(1, 39), 39);
        is("the last of 40 to the first", wide(40).moveNode(39, 1), 2);
        is("the end of a chain to the root", chain(40).moveNode(20, 0), 20);

        sentence("Throws `IndexOutOfBoundsException` if there is no such node or parent");
        refusesOutside(INDEX, grown(), 0, 7, (z, node) -> z.moveNode(node, 0));
        refusesOutside(INDEX, grown(), 0, 7, (z, parent) -> z.moveNode(1, parent));
        refusesOutside(INDEX, new TreeQueries(), 0, 0, (z, parent) -> z.moveNode(0, parent));
        refusesOutside(INDEX, wide(40), 0, 39, (z, both) -> z.moveNode(both, both));

        sentence("Throws `UnsupportedOperationException` if the parent is the node itself or below it");
        TreeQueries grown = grown();
        for (int[] pair : new int[][] {{1, 1}, {1, 2}, {1, 3}, {1, 4}, {3, 4}, {5, 5}, {5, 7}, {7, 7}, {0, 0}, {0, 7}}) {
            refuses("node " + pair[0] + " to " + pair[1], UNSUPPORTED, grown, () -> grown.moveNode(pair[0], pair[1]));
        }
        is("the node before the first below it", outcome(() -> grown().moveNode(1, 0)), "4");
        is("the node behind the last below it", outcome(() -> grown().moveNode(1, 5)), "4");
        is("the node before", outcome(() -> grown().moveNode(3, 2)), "3");
        TreeQueries chain = chain(40);
        refuses("to the last of 40", UNSUPPORTED, chain, () -> chain.moveNode(1, 39));
        TreeQueries alone = new TreeQueries();
        refuses("the root alone", UNSUPPORTED, alone, () -> alone.moveNode(0, 0));
    }

    private static void setNode() {
        section("Promise 5: setNode");
        sentence("Sets name and value of a node. Undoable.");
        TreeQueries x = grown();
        x.setNode(7, 3, 4);
        x.setNode(0, 2, 3);
        x.setNode(3, 7, 9);
        is("tree", tree(x), "c3^-1 b1^0 a3^1 h9^1 a5^3 c2^0 a6^5 d4^5");
        isUndoable("setNode", Checks::grown, y -> y.setNode(4, 7, 9));
        isUndoable("setNode as it is", Checks::grown, y -> y.setNode(4, 0, 5));

        sentence("- `node`: number of a node");
        takes(Checks::grown, 0, 7, (y, node) -> y.setNode(node, 0, 0));
        takes(() -> wide(40), 0, 39, (y, node) -> y.setNode(node, 0, 0));

        sentence("- `name`: 0 to 7");
        takes(Checks::grown, 0, 7, (y, name) -> y.setNode(1, name, 0));

        sentence("- `value`: 0 to 9");
        takes(Checks::grown, 0, 9, (y, value) -> y.setNode(1, 0, value));

        sentence("Returns 10 * (previous name) + (previous value).");
        TreeQueries y = grown();
        is("name 1, value 7", y.setNode(7, 7, 9), 17);
        is("the greatest", y.setNode(7, 0, 0), 79);
        is("the least", y.setNode(7, 0, 9), 0);
        is("a value alone", y.setNode(7, 7, 0), 9);
        is("a name alone", y.setNode(7, 0, 0), 70);
        is("the root", y.setNode(0, 2, 3), 0);

        sentence("Throws `IndexOutOfBoundsException` if there is no such node");
        refusesOutside(INDEX, grown(), 0, 7, (z, node) -> z.setNode(node, 0, 0));
        refusesOutside(INDEX, wide(40), 0, 39, (z, node) -> z.setNode(node, 0, 0));

        sentence("Throws `IllegalArgumentException` if name or value is out of range");
        refusesOutside(ARGUMENT, grown(), 0, 7, (z, name) -> z.setNode(1, name, 0));
        refusesOutside(ARGUMENT, grown(), 0, 9, (z, value) -> z.setNode(1, 0, value));
    }

    private static void nodes() {
        section("Promise 6: nodes");
        sentence("Returns the number of nodes.");
        TreeQueries x = new TreeQueries();
        x.addNode(0, 0, 0);
        is("after one more", x.nodes(), 2);
        x.addNode(1, 0, 0);
        is("after two more", x.nodes(), 3);
        x.moveNode(2, 0);
        is("after a move", x.nodes(), 3);
        x.removeNode(1);
        is("after one less", x.nodes(), 2);
        x.undo();
        is("after undo", x.nodes(), 3);

        sentence("Returns 1 to 40.");
        is("at least", new TreeQueries().nodes(), 1);
        is("at most", wide(40).nodes(), 40);
        TreeQueries full = chain(40);
        is("one more is refused", outcome(() -> full.addNode(0, 0, 0)), "IllegalStateException");
        is("at most still", full.nodes(), 40);
        full.removeNode(1);
        is("at least again", full.nodes(), 1);
        is("one less is refused", outcome(() -> full.removeNode(0)), "UnsupportedOperationException");
        is("at least still", full.nodes(), 1);
    }

    private static void node() {
        section("Promise 7: node");
        sentence("Returns a value of a node.");
        int[][] due = {{0, 0, -1, 2, 7, 0}, {1, 1, 0, 2, 3, 1}, {0, 3, 1, 0, 0, 2}, {1, 4, 1, 1, 1, 2},
            {0, 5, 3, 0, 0, 3}, {2, 2, 0, 2, 2, 1}, {0, 6, 5, 0, 0, 2}, {1, 7, 5, 0, 0, 2}};
        TreeQueries x = grown();
        for (int node = 0; node < 8; node++) {
            for (int what = 0; what < 6; what++) {
                is("node(" + node + ", " + what + ")", x.node(node, what), due[node][what]);
            }
        }

        sentence("- `node`: number of a node");
        takes(Checks::grown, 0, 7, (y, node) -> y.node(node, 0));
        takes(() -> wide(40), 0, 39, (y, node) -> y.node(node, 5));

        sentence("- `what`: 0 name, 1 value, 2 parent (NONE for the root), 3 number of children, 4 number of nodes below "
                + "it, 5 depth (0 for the root)");
        TreeQueries alone = new TreeQueries();
        int[] dueAlone = {0, 0, NONE, 0, 0, 0};
        int[] dueWide = {0, 0, NONE, 39, 39, 0};
        int[] dueLast = {7, 9, 38, 0, 0, 39};
        int[] dueMiddle = {4, 0, 19, 1, 19, 20};
        for (int what = 0; what < 6; what++) {
            is("the root alone, " + what, alone.node(0, what), dueAlone[what]);
            is("the root of 40, " + what, wide(40).node(0, what), dueWide[what]);
            is("the last of a chain, " + what, chain(40).node(39, what), dueLast[what]);
            is("the middle of a chain, " + what, chain(40).node(20, what), dueMiddle[what]);
        }

        sentence("Returns that value.");
        x.setNode(3, 7, 9);
        x.addNode(3, 0, 0);
        int[] dueThen = {7, 9, 1, 2, 2, 2};
        for (int what = 0; what < 6; what++) {
            is("after changes, " + what, x.node(3, what), dueThen[what]);
        }

        sentence("Throws `IndexOutOfBoundsException` if there is no such node");
        refusesOutside(INDEX, grown(), 0, 7, (y, node) -> y.node(node, 0));
        refusesOutside(INDEX, wide(40), 0, 39, (y, node) -> y.node(node, 2));

        sentence("Throws `IllegalArgumentException` if what is out of range");
        refusesOutside(ARGUMENT, grown(), 0, 5, (y, what) -> y.node(0, what));
    }

    private static void axis() {
        section("Promise 8: axis");
        sentence("Returns a node of an axis.");
        TreeQueries x = grown();
        is("a child", x.axis(0, TreeQueries.CHILD, 1), 5);
        is("itself", x.axis(3, TreeQueries.SELF, 0), 3);
        is("a descendant", x.axis(0, TreeQueries.DESCENDANT, 3), 4);
        is("itself or a descendant", x.axis(1, TreeQueries.DESCENDANT_OR_SELF, 3), 4);
        is("a sibling behind", x.axis(1, TreeQueries.FOLLOWING_SIBLING, 0), 5);
        is("a node behind", x.axis(2, TreeQueries.FOLLOWING, 4), 7);
        is("the parent", x.axis(4, TreeQueries.PARENT, 0), 3);
        is("an ancestor", x.axis(4, TreeQueries.ANCESTOR, 2), 0);
        is("a sibling before", x.axis(7, TreeQueries.PRECEDING_SIBLING, 0), 6);
        is("a node before", x.axis(7, TreeQueries.PRECEDING, 4), 1);

        sentence("- `node`: number of a node");
        takes(Checks::grown, 0, 7, (y, node) -> y.axis(node, 1, 0));
        takes(() -> wide(40), 0, 39, (y, node) -> y.axis(node, 9, 0));

        sentence("- `axis`: 0 to 9");
        takes(Checks::grown, 0, 9, (y, axis) -> y.axis(3, axis, 0));

        sentence("- `index`: 0 or more; in the order of the axis");
        takes(Checks::grown, 0, MOST, (y, index) -> y.axis(3, 0, index));
        is("first of the ancestors", x.axis(4, 7, 0), 3);
        is("last of the ancestors", x.axis(4, 7, 2), 0);
        is("first of the preceding ones", x.axis(5, 9, 0), 4);
        is("last of the preceding ones", x.axis(5, 9, 3), 1);
        is("first of 39", wide(40).axis(0, 0, 0), 1);
        is("last of 39", wide(40).axis(0, 0, 38), 39);
        is("first of 39 before", chain(40).axis(39, 7, 0), 38);
        is("last of 39 before", chain(40).axis(39, 7, 38), 0);

        sentence("Returns the node; NONE if the axis has not so many.");
        for (int axis = 0; axis < 10; axis++) {
            int of = axis;
            int length = along(x, 3, axis).isEmpty() ? 0 : along(x, 3, axis).split(" ").length;
            is("axis " + axis + ", one too many", x.axis(3, axis, length), NONE);
            is("axis " + axis + ", far too many", x.axis(3, axis, MOST), NONE);
            is("axis " + axis + ", 64", x.axis(3, axis, 64), NONE);
            is("axis " + axis + ", the last is there", length == 0 || x.axis(3, of, length - 1) != NONE, true);
        }
        is("none behind 39", wide(40).axis(0, TreeQueries.DESCENDANT, 39), NONE);
        is("none behind 40", wide(40).axis(0, TreeQueries.DESCENDANT_OR_SELF, 40), NONE);

        sentence("Throws `IndexOutOfBoundsException` if there is no such node");
        refusesOutside(INDEX, grown(), 0, 7, (y, node) -> y.axis(node, 0, 0));
        refusesOutside(INDEX, wide(40), 0, 39, (y, node) -> y.axis(node, 1, 0));

        sentence("Throws `IllegalArgumentException` if axis is out of range, or index is negative");
        refusesOutside(ARGUMENT, grown(), 0, 9, (y, axis) -> y.axis(3, axis, 0));
        for (int axis = 0; axis < 10; axis++) {
            int of = axis;
            TreeQueries y = grown();
            refuses("index -1 of axis " + axis, ARGUMENT, y, () -> y.axis(3, of, -1));
            refuses("least index of axis " + axis, ARGUMENT, y, () -> y.axis(3, of, LEAST));
        }
    }
}
