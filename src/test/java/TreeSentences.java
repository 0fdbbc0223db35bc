/** The sentences about the tree and the axes. */
final class TreeSentences extends Sentences {
    private static final String[] SIGNS = {"", ".", "%", "#", ">", "}", "^", "~", "<", "{"};

    private TreeSentences() {
    }

    static void look() {
        tree();
        names();
        axes();
        axesDown();
        axesAside();
        axesUp();
    }

    private static void tree() {
        section("THE TREE");
        sentence("The tree has 1 to 40 nodes, numbered from 0 in document order: a node comes before its children, and "
                + "each of them with its descendants before the next child.");
        TreeQueries least = new TreeQueries();
        is("the least tree", least.nodes(), 1);
        refuses("a tree of 0 nodes", UNSUPPORTED, least, () -> least.removeNode(0));
        TreeQueries most = wide(40);
        is("the greatest tree", most.nodes(), 40);
        is("the last node", most.node(39, 2), 0);
        refuses("a tree of 41 nodes", STATE, most, () -> most.addNode(0, 0, 0));
        refusesOutside(INDEX, most, 0, 39, (x, node) -> x.node(node, 0));
        TreeQueries scattered = new TreeQueries();
        for (int added = 1; added < 40; added++) {
            int parent = (37 * added + 11 * (added / 3)) % 101 % added;
            int due = parent + scattered.node(parent, 4) + 1;
            is("number behind the last below node " + parent, scattered.addNode(parent, 0, 0), due);
        }
        isInDocumentOrder(scattered);
        scattered.moveNode(30, 3);
        scattered.removeNode(20);
        isInDocumentOrder(scattered);

        sentence("Node 0 is the root.");
        TreeQueries grown = grown();
        grown.moveNode(1, 5);
        grown.removeNode(2);
        is("parent of node 0", grown.node(0, 2), NONE);
        is("depth of node 0", grown.node(0, 5), 0);
        is("nodes below node 0", grown.node(0, 4), grown.nodes() - 1);
        is("from the root", read(grown, 0, "/.*") + " " + chosen(grown, 0, 2), "1 0");
    }

    /** Each node has the one before it as its parent, or shares its parent with that one or one above that one. */
    private static void isInDocumentOrder(TreeQueries x) {
        for (int node = 1; node < x.nodes(); node++) {
            int parent = x.node(node, 2);
            int above = node - 1;
            while (above > parent) {
                above = x.node(above, 2);
            }
            is("the parent of " + node + " leads to the node before", above, parent);
        }
    }

    private static void names() {
        sentence("A node has a name (0 to 7, written as a to h) and a value (0 to 9).");
        for (int name = 0; name <= 7; name++) {
            TreeQueries x = new TreeQueries();
            x.setNode(0, name, 0);
            is("name " + name, x.node(0, 0), name);
            for (char letter = 'a'; letter <= 'h'; letter++) {
                read(x, 0, "." + letter);
                is("name " + name + " is " + letter, x.count(0, 0), letter - 'a' == name ? 1 : 0);
            }
        }
        for (int value = 0; value <= 9; value++) {
            TreeQueries x = new TreeQueries();
            x.setNode(0, 0, value);
            is("value " + value, x.node(0, 1), value);
        }
        TreeQueries x = new TreeQueries();
        refusesOutside(ARGUMENT, x, 0, 7, (y, name) -> y.setNode(0, name, 0));
        refusesOutside(ARGUMENT, x, 0, 9, (y, value) -> y.setNode(0, 0, value));

        sentence("At first there is the root alone, with the name 0 and the value 0.");
        is("the first tree", tree(new TreeQueries()), "a0^-1");

        sentence("Numbers of nodes change when nodes are added or removed, so that they always tell the document order.");
        TreeQueries grown = grown();
        is("node 5 at first", grown.node(5, 1), 2);
        grown.addNode(1, 7, 8);
        is("tree with one more", tree(grown), "a0^-1 b1^0 a3^1 b4^1 a5^3 h8^1 c2^0 a6^6 b7^6");
        grown.removeNode(3);
        is("tree with two less", tree(grown), "a0^-1 b1^0 a3^1 h8^1 c2^0 a6^4 b7^4");
        grown.removeNode(2);
        is("tree with one less", tree(grown), "a0^-1 b1^0 h8^1 c2^0 a6^3 b7^3");
    }

    private static void axes() {
        section("AXES");
        sentence("From a node, an axis gives nodes in an order.");
        TreeQueries x = grown();
        is("the first", x.axis(4, TreeQueries.ANCESTOR, 0), 3);
        is("the second", x.axis(4, TreeQueries.ANCESTOR, 1), 1);
        is("the third", x.axis(4, TreeQueries.ANCESTOR, 2), 0);
        is("no fourth", x.axis(4, TreeQueries.ANCESTOR, 3), NONE);

        sentence("The sign in front is how it is written; the child axis has no sign.");
        for (int axis = 0; axis <= 9; axis++) {
            TreeQueries y = grownWith(SIGNS[axis] + "*");
            is("written axis " + axis, query(y, 0), SIGNS[axis] + "*");
            for (int node = 0; node < 8; node++) {
                int found = along(y, node, axis).isEmpty() ? 0 : along(y, node, axis).split(" ").length;
                is("axis " + axis + " of " + node + ", nodes", y.count(0, node), found);
                is("axis " + axis + " of " + node + ", first", firstOf(SIGNS[axis], node), y.axis(node, axis, 0));
            }
        }
    }

    private static int firstOf(String sign, int node) {
        return grownWith(sign + "*[1]").selected(0, node, 0);
    }

    /** An axis of each node of the grown tree. */
    private static void ofGrown(int axis, String... due) {
        for (int node = 0; node < 8; node++) {
            is("axis of " + node, along(grown(), node, axis), due[node]);
        }
    }

    private static String upwards(int from, int to) {
        StringBuilder out = new StringBuilder();
        for (int number = from; number <= to; number++) {
            out.append(number > from ? " " : "").append(number);
        }
        return out.toString();
    }

    private static String downwards(int from, int to) {
        StringBuilder out = new StringBuilder();
        for (int number = from; number >= to; number--) {
            out.append(number < from ? " " : "").append(number);
        }
        return out.toString();
    }

    private static void axesDown() {
        sentence("- child: the children, in document order.");
        ofGrown(TreeQueries.CHILD, "1 5", "2 3", "", "4", "", "6 7", "", "");
        is("39 children", along(wide(40), 0, 0), upwards(1, 39));
        is("of the root alone", along(new TreeQueries(), 0, 0), "");

        sentence("- . self: the node itself.");
        ofGrown(TreeQueries.SELF, "0", "1", "2", "3", "4", "5", "6", "7");
        is("of the root alone", along(new TreeQueries(), 0, 1), "0");
        is("of the last of 40", along(wide(40), 39, 1), "39");

        sentence("- % descendant: all nodes below it, in document order.");
        ofGrown(TreeQueries.DESCENDANT, "1 2 3 4 5 6 7", "2 3 4", "", "4", "", "6 7", "", "");
        is("39 children", along(wide(40), 0, 2), upwards(1, 39));
        is("39 below each other", along(chain(40), 0, 2), upwards(1, 39));
        is("of the last of 40", along(chain(40), 39, 2), "");
        is("of the root alone", along(new TreeQueries(), 0, 2), "");

        sentence("- # descendant-or-self: the node and all nodes below it, in document order.");
        ofGrown(TreeQueries.DESCENDANT_OR_SELF, "0 1 2 3 4 5 6 7", "1 2 3 4", "2", "3 4", "4", "5 6 7", "6", "7");
        is("40 nodes", along(wide(40), 0, 3), upwards(0, 39));
        is("40 below each other", along(chain(40), 0, 3), upwards(0, 39));
        is("of the root alone", along(new TreeQueries(), 0, 3), "0");
    }

    private static void axesAside() {
        sentence("- > following sibling: the later children of its parent, in document order.");
        ofGrown(TreeQueries.FOLLOWING_SIBLING, "", "5", "3", "", "", "", "7", "");
        is("38 siblings", along(wide(40), 1, 4), upwards(2, 39));
        is("the last sibling", along(wide(40), 38, 4), "39");
        is("of the last of 40", along(wide(40), 39, 4), "");
        is("of the root alone", along(new TreeQueries(), 0, 4), "");

        sentence("- } following: all nodes behind it in document order that are not below it, in this order.");
        ofGrown(TreeQueries.FOLLOWING, "", "5 6 7", "3 4 5 6 7", "5 6 7", "5 6 7", "", "7", "");
        is("38 siblings", along(wide(40), 1, 5), upwards(2, 39));
        is("in a chain", along(chain(40), 20, 5), "");
        is("of the root alone", along(new TreeQueries(), 0, 5), "");

        sentence("- < preceding sibling: the earlier children of its parent, in reverse document order.");
        ofGrown(TreeQueries.PRECEDING_SIBLING, "", "", "", "2", "", "1", "", "6");
        is("38 siblings", along(wide(40), 39, 8), downwards(38, 1));
        is("of the first child", along(wide(40), 1, 8), "");
        is("of the root alone", along(new TreeQueries(), 0, 8), "");

        sentence("- { preceding: all nodes before it in document order that are not its ancestors, in reverse document "
                + "order.");
        ofGrown(TreeQueries.PRECEDING, "", "", "", "2", "2", "4 3 2 1", "4 3 2 1", "6 4 3 2 1");
        is("38 siblings", along(wide(40), 39, 9), downwards(38, 1));
        is("in a chain", along(chain(40), 39, 9), "");
        is("of the root alone", along(new TreeQueries(), 0, 9), "");
    }

    private static void axesUp() {
        sentence("- ^ parent: its parent, if it has one.");
        ofGrown(TreeQueries.PARENT, "", "0", "1", "1", "3", "0", "5", "5");
        is("of the last of 40", along(chain(40), 39, 6), "38");
        is("of the root alone", along(new TreeQueries(), 0, 6), "");

        sentence("- ~ ancestor: its parent, the parent of this one, and so on, in this order.");
        ofGrown(TreeQueries.ANCESTOR, "", "0", "1 0", "1 0", "3 1 0", "0", "5 0", "5 0");
        is("39 above", along(chain(40), 39, 7), downwards(38, 0));
        is("of the last of 39 children", along(wide(40), 39, 7), "0");
        is("of the root alone", along(new TreeQueries(), 0, 7), "");
    }
}
