import java.util.ArrayDeque;
import java.util.ArrayList;
import java.util.Deque;
import java.util.List;

/**
 * The document told a second time, as plainly as can be and with nothing of the program's own ways: nodes are objects
 * with lists, queries are lists of texts, and everything is looked up by walking. ModelTest compares the two.
 */
final class Model {
    private static final String SIGNS = " .%#>}^~<{";

    private static final class Node {
        int name;
        int value;
        Node parent;
        final List<Node> children = new ArrayList<>();
    }

    private static final class Step {
        int axis;
        char test;
        /** Predicates of alternatives of conditions; a condition is kept as it is written. */
        final List<List<List<String>>> predicates = new ArrayList<>();

        String text() {
            StringBuilder out = new StringBuilder(testText(axis, test));
            for (List<List<String>> predicate : predicates) {
                out.append(predicateText(predicate));
            }
            return out.toString();
        }

        boolean isPositional() {
            return predicates.stream().anyMatch(Model::isPositional);
        }
    }

    private static final class Path {
        boolean absolute;
        final List<Step> steps = new ArrayList<>();

        String text() {
            StringBuilder out = new StringBuilder();
            for (int i = 0; i < steps.size(); i++) {
                out.append(i > 0 || absolute ? "/" : "").append(steps.get(i).text());
            }
            return out.toString();
        }
    }

    private static final class Fault extends Exception {
        private static final long serialVersionUID = 1L;
        final int index;

        Fault(int at) {
            index = at;
        }
    }

    private static final class Saved {
        final Node root;
        final String[] queries;

        Saved(Node tree, String[] texts) {
            root = tree;
            queries = texts;
        }
    }

    private Node root = new Node();
    private String text = "";
    /** Each place as its query is written, or null. */
    private String[] places = new String[4];
    private final Deque<Saved> undo = new ArrayDeque<>();

    // ---- the calls of the face

    int addNode(int parent, int name, int value) {
        Node above = nodeAt(parent);
        argument(name >= 0 && name <= 7 && value >= 0 && value <= 9);
        state(nodes() < 40);
        save();
        Node added = new Node();
        added.name = name;
        added.value = value;
        added.parent = above;
        above.children.add(added);
        return number(added);
    }

    int removeNode(int node) {
        Node removed = nodeAt(node);
        possible(removed != root);
        save();
        removed.parent.children.remove(removed);
        return nodes();
    }

    int moveNode(int node, int parent) {
        Node moved = nodeAt(node);
        Node target = nodeAt(parent);
        possible(!below(moved, true).contains(target));
        save();
        moved.parent.children.remove(moved);
        moved.parent = target;
        target.children.add(moved);
        return number(moved);
    }

    int setNode(int node, int name, int value) {
        Node changed = nodeAt(node);
        argument(name >= 0 && name <= 7 && value >= 0 && value <= 9);
        save();
        int previous = 10 * changed.name + changed.value;
        changed.name = name;
        changed.value = value;
        return previous;
    }

    int nodes() {
        return all().size();
    }

    int node(int node, int what) {
        Node told = nodeAt(node);
        argument(what >= 0 && what <= 5);
        int[] values = {told.name, told.value, told.parent == null ? -1 : number(told.parent), told.children.size(),
            below(told, false).size(), above(told).size()};
        return values[what];
    }

    int axis(int node, int axis, int index) {
        Node from = nodeAt(node);
        argument(axis >= 0 && axis <= 9 && index >= 0);
        List<Node> found = along(from, axis);
        return index < found.size() ? number(found.get(index)) : -1;
    }

    int type(int value) {
        argument(value >= 0 && value <= 127);
        state(text.length() < 80);
        text += (char) value;
        return text.length();
    }

    int clearText() {
        int length = text.length();
        text = "";
        return length;
    }

    int read(int query) {
        place(query);
        List<Path> paths;
        try {
            paths = new Reader(text).query();
        } catch (Fault fault) {
            return -10 - fault.index;
        }
        save();
        places[query] = queryText(paths);
        return paths.size();
    }

    int written(int query, int index) {
        place(query);
        argument(index >= 0);
        state(places[query] != null);
        return index < places[query].length() ? places[query].charAt(index) : -1;
    }

    int size(int query, int what) {
        place(query);
        argument(what >= 0 && what <= 5);
        state(places[query] != null);
        int steps = 0;
        int predicates = 0;
        int conditions = 0;
        boolean positional = false;
        List<Path> paths = parsed(places[query]);
        for (Path path : paths) {
            for (Step step : path.steps) {
                steps++;
                positional |= step.isPositional();
                for (List<List<String>> predicate : step.predicates) {
                    predicates++;
                    for (List<String> alternative : predicate) {
                        conditions += alternative.size();
                    }
                }
            }
        }
        int[] values = {paths.size(), steps, predicates, conditions, positional ? 1 : 0, places[query].length()};
        return values[what];
    }

    int unite(int query, int first, int second) {
        place(query);
        place(first);
        place(second);
        state(places[first] != null && places[second] != null);
        String union = places[first] + "|" + places[second];
        state(union.split("\\|").length <= 4);
        save();
        places[query] = union;
        return union.split("\\|").length;
    }

    int drop(int query) {
        place(query);
        save();
        int had = places[query] == null ? 0 : 1;
        places[query] = null;
        return had;
    }

    int count(int query, int context) {
        place(query);
        Node from = nodeAt(context);
        state(places[query] != null);
        return chosen(places[query], from).size();
    }

    int selected(int query, int context, int index) {
        place(query);
        Node from = nodeAt(context);
        argument(index >= 0);
        state(places[query] != null);
        List<Node> found = chosen(places[query], from);
        return index < found.size() ? number(found.get(index)) : -1;
    }

    int sum(int query, int context) {
        place(query);
        Node from = nodeAt(context);
        state(places[query] != null);
        return chosen(places[query], from).stream().mapToInt(n -> n.value).sum();
    }

    int given(int query, int path, int step, int node) {
        place(query);
        Node from = nodeAt(node);
        state(places[query] != null);
        List<Path> paths = parsed(places[query]);
        argument(path >= 0 && path < paths.size());
        argument(step >= 0 && step < paths.get(path).steps.size());
        return gift(paths.get(path).steps.get(step), from).size();
    }

    int differences(int first, int second) {
        place(first);
        place(second);
        state(places[first] != null && places[second] != null);
        int different = 0;
        for (Node context : all()) {
            if (!chosen(places[first], context).equals(chosen(places[second], context))) {
                different++;
            }
        }
        return different;
    }

    int rewrite(int query) {
        place(query);
        state(places[query] != null);
        save();
        int[] used = new int[10];
        places[query] = rewritten(places[query], used);
        int total = 0;
        for (int rule = 1; rule <= 9; rule++) {
            total += used[rule];
        }
        return total;
    }

    int uses(int query, int rule) {
        place(query);
        argument(rule >= 1 && rule <= 9);
        state(places[query] != null);
        int[] used = new int[10];
        rewritten(places[query], used);
        return used[rule];
    }

    int undo() {
        state(!undo.isEmpty());
        Saved saved = undo.pop();
        root = saved.root;
        places = saved.queries;
        return undo.size();
    }

    long digest() {
        List<Integer> values = new ArrayList<>();
        values.add(undo.size());
        values.add(text.length());
        values.add(nodes());
        for (int node = 0; node < nodes(); node++) {
            for (int what = 0; what < 6; what++) {
                values.add(node(node, what));
            }
        }
        for (int query = 0; query < 4; query++) {
            values.add(places[query] == null ? 0 : 1);
            if (places[query] != null) {
                addQuery(values, query);
            }
        }
        long h = 18335;
        for (int v : values) {
            h = 31 * h + v;
        }
        return h;
    }

    private void addQuery(List<Integer> values, int query) {
        for (int what = 0; what < 6; what++) {
            values.add(size(query, what));
        }
        for (int i = 0; i < places[query].length(); i++) {
            values.add(written(query, i));
        }
        for (int context = 0; context < nodes(); context++) {
            values.add(count(query, context));
            values.add(sum(query, context));
        }
        for (int rule = 1; rule <= 9; rule++) {
            values.add(uses(query, rule));
        }
    }

    /** The query at a place as it is written, or null. */
    String queryAt(int query) {
        return places[query];
    }

    // ---- exceptions and undo

    private Node nodeAt(int node) {
        if (node < 0 || node >= nodes()) {
            throw new IndexOutOfBoundsException();
        }
        return all().get(node);
    }

    private static void place(int query) {
        if (query < 0 || query > 3) {
            throw new IndexOutOfBoundsException();
        }
    }

    private static void argument(boolean right) {
        if (!right) {
            throw new IllegalArgumentException();
        }
    }

    private static void state(boolean right) {
        if (!right) {
            throw new IllegalStateException();
        }
    }

    private static void possible(boolean right) {
        if (!right) {
            throw new UnsupportedOperationException();
        }
    }

    private void save() {
        undo.push(new Saved(copy(root, null), places.clone()));
        if (undo.size() > 4) {
            undo.removeLast();
        }
    }

    private static Node copy(Node node, Node parent) {
        Node copy = new Node();
        copy.name = node.name;
        copy.value = node.value;
        copy.parent = parent;
        for (Node child : node.children) {
            copy.children.add(copy(child, copy));
        }
        return copy;
    }

    // ---- the tree

    private List<Node> all() {
        return below(root, true);
    }

    private int number(Node node) {
        return all().indexOf(node);
    }

    private static List<Node> below(Node node, boolean itself) {
        List<Node> found = new ArrayList<>();
        if (itself) {
            found.add(node);
        }
        for (Node child : node.children) {
            found.addAll(below(child, true));
        }
        return found;
    }

    private static List<Node> above(Node node) {
        List<Node> found = new ArrayList<>();
        for (Node up = node.parent; up != null; up = up.parent) {
            found.add(up);
        }
        return found;
    }

    private List<Node> along(Node node, int axis) {
        List<Node> all = all();
        List<Node> siblings = node.parent == null ? List.of(node) : node.parent.children;
        List<Node> found = new ArrayList<>();
        switch (axis) {
            case 0 -> found.addAll(node.children);
            case 1 -> found.add(node);
            case 2 -> found.addAll(below(node, false));
            case 3 -> found.addAll(below(node, true));
            case 4 -> found.addAll(siblings.subList(siblings.indexOf(node) + 1, siblings.size()));
            case 5 -> {
                found.addAll(all.subList(all.indexOf(node) + 1, all.size()));
                found.removeAll(below(node, false));
            }
            case 6 -> found.addAll(node.parent == null ? List.of() : List.of(node.parent));
            case 7 -> found.addAll(above(node));
            case 8 -> {
                for (int i = siblings.indexOf(node) - 1; i >= 0; i--) {
                    found.add(siblings.get(i));
                }
            }
            default -> {
                for (int i = all.indexOf(node) - 1; i >= 0; i--) {
                    found.add(all.get(i));
                }
                found.removeAll(above(node));
            }
        }
        return found;
    }

    // ---- evaluation

    private List<Node> chosen(String query, Node context) {
        List<Node> found = new ArrayList<>();
        for (Path path : parsed(query)) {
            found.addAll(chosen(path, context));
        }
        List<Node> ordered = all();
        ordered.retainAll(found);
        return ordered;
    }

    private List<Node> chosen(Path path, Node context) {
        List<Node> set = List.of(path.absolute ? root : context);
        for (Step step : path.steps) {
            List<Node> next = new ArrayList<>();
            for (Node node : set) {
                for (Node given : gift(step, node)) {
                    if (!next.contains(given)) {
                        next.add(given);
                    }
                }
            }
            set = next;
        }
        return set;
    }

    private List<Node> gift(Step step, Node node) {
        List<Node> left = new ArrayList<>();
        for (Node candidate : along(node, step.axis)) {
            if (step.test == '*' || step.test == 'a' + candidate.name) {
                left.add(candidate);
            }
        }
        for (List<List<String>> predicate : step.predicates) {
            List<Node> kept = new ArrayList<>();
            for (int i = 0; i < left.size(); i++) {
                if (holds(predicate, left.get(i), i + 1, left.size())) {
                    kept.add(left.get(i));
                }
            }
            left = kept;
        }
        return left;
    }

    private boolean holds(List<List<String>> predicate, Node node, int number, int total) {
        for (List<String> alternative : predicate) {
            boolean all = true;
            for (String condition : alternative) {
                boolean opposite = condition.startsWith("-");
                all &= holds(opposite ? condition.substring(1) : condition, node, number, total) != opposite;
            }
            if (all) {
                return true;
            }
        }
        return false;
    }

    private boolean holds(String atom, Node node, int number, int total) {
        switch (atom.charAt(0)) {
            case '$':
                return number == total;
            case '=':
                return node.value == atom.charAt(1) - '0';
            case '?':
                return !chosen(atom.substring(1), node).isEmpty();
            default:
                return number == atom.charAt(0) - '0';
        }
    }

    // ---- texts

    /** Reads without the limits when the text is one that the model itself has written. */
    private static List<Path> parsed(String query) {
        try {
            return new Reader(query).query();
        } catch (Fault fault) {
            throw new AssertionError("the model can not read " + query);
        }
    }

    private static String queryText(List<Path> paths) {
        StringBuilder out = new StringBuilder();
        for (Path path : paths) {
            out.append(out.length() > 0 ? "|" : "").append(path.text());
        }
        return out.toString();
    }

    private static String testText(int axis, char test) {
        return (axis == 0 ? "" : SIGNS.substring(axis, axis + 1)) + test;
    }

    private static String predicateText(List<List<String>> predicate) {
        List<String> alternatives = new ArrayList<>();
        for (List<String> alternative : predicate) {
            alternatives.add(String.join(",", alternative));
        }
        return "[" + String.join("+", alternatives) + "]";
    }

    private static boolean isPositional(List<List<String>> predicate) {
        return predicateText(predicate).matches(".*[\\[,+-][1-9$].*");
    }

    /** A parser by descent. */
    private static final class Reader {
        private final String text;
        private int at = 0;

        Reader(String read) {
            text = read;
        }

        private int sign() {
            return at < text.length() ? text.charAt(at) : -1;
        }

        private boolean takes(char wanted) {
            if (sign() != wanted) {
                return false;
            }
            at++;
            return true;
        }

        private void require(boolean right) throws Fault {
            if (!right) {
                throw new Fault(at);
            }
        }

        List<Path> query() throws Fault {
            List<Path> paths = new ArrayList<>();
            paths.add(path());
            while (sign() != -1) {
                require(sign() == '|' && paths.size() < 4);
                at++;
                paths.add(path());
            }
            return paths;
        }

        private Path path() throws Fault {
            Path path = new Path();
            path.absolute = takes('/');
            boolean slash = path.absolute;
            do {
                if (slash && sign() == '/') {
                    addStep(path, 3, '*');
                    at++;
                }
                require(path.steps.size() < 8);
                step(path);
                slash = takes('/');
            } while (slash);
            return path;
        }

        private void addStep(Path path, int axis, char test) throws Fault {
            require(path.steps.size() < 8);
            Step step = new Step();
            step.axis = axis;
            step.test = test;
            path.steps.add(step);
        }

        private void step(Path path) throws Fault {
            int axis = axis();
            addStep(path, axis, test());
            List<List<List<String>>> predicates = path.steps.get(path.steps.size() - 1).predicates;
            while (sign() == '[') {
                require(predicates.size() < 3);
                at++;
                predicates.add(predicate());
            }
        }

        private int axis() {
            int axis = sign() == ' ' ? -1 : SIGNS.indexOf(sign());
            if (axis < 1) {
                return 0;
            }
            at++;
            return axis;
        }

        private char test() throws Fault {
            require(sign() == '*' || sign() >= 'a' && sign() <= 'h');
            return text.charAt(at++);
        }

        private List<List<String>> predicate() throws Fault {
            List<List<String>> alternatives = new ArrayList<>();
            do {
                List<String> conditions = new ArrayList<>();
                do {
                    conditions.add(condition());
                } while (conditions.size() < 3 && takes(','));
                alternatives.add(conditions);
            } while (alternatives.size() < 3 && takes('+'));
            require(sign() == ']');
            at++;
            return alternatives;
        }

        private String condition() throws Fault {
            int from = at;
            takes('-');
            if (takes('=')) {
                require(sign() >= '0' && sign() <= '9');
                at++;
            } else if (takes('?')) {
                int steps = 0;
                do {
                    axis();
                    test();
                    steps++;
                } while (steps < 3 && takes('/'));
            } else {
                require(sign() == '$' || sign() >= '1' && sign() <= '9');
                at++;
            }
            return text.substring(from, at);
        }
    }

    // ---- rewriting

    private static String rewritten(String query, int[] used) {
        List<String> texts = new ArrayList<>();
        for (Path path : parsed(query)) {
            for (int rule = shorten(path); rule > 0; rule = shorten(path)) {
                used[rule]++;
            }
            if (texts.contains(path.text())) {
                used[9]++;
            } else {
                texts.add(path.text());
            }
        }
        return String.join("|", texts);
    }

    private static int shorten(Path path) {
        for (int rule = 1; rule <= 5; rule++) {
            for (int i = 0; i < path.steps.size(); i++) {
                if (usesStepRule(rule, path.steps, i)) {
                    return rule;
                }
            }
        }
        for (int rule = 6; rule <= 8; rule++) {
            for (Step step : path.steps) {
                for (int p = 0; p < step.predicates.size(); p++) {
                    if (usesPredicateRule(rule, step.predicates, p)) {
                        return rule;
                    }
                }
            }
        }
        return 0;
    }

    private static boolean usesStepRule(int rule, List<Step> steps, int i) {
        Step step = steps.get(i);
        if (rule == 1) {
            boolean used = step.text().equals(".*") && steps.size() > 1;
            if (used) {
                steps.remove(i);
            }
            return used;
        }
        if (i + 1 == steps.size()) {
            return false;
        }
        Step next = steps.get(i + 1);
        boolean descent = step.text().equals("#*") && !next.isPositional();
        if (rule == 2 && descent && next.axis == 0) {
            next.axis = 2;
            steps.remove(i);
            return true;
        }
        if (rule == 3 && descent && (next.axis == 2 || next.axis == 3)) {
            steps.remove(i);
            return true;
        }
        if (rule == 4 && step.predicates.isEmpty() && step.axis == 0 && next.text().equals("^*")) {
            step.predicates.add(List.of(List.of("?" + step.text())));
            step.axis = 1;
            step.test = '*';
            steps.remove(i + 1);
            return true;
        }
        if (rule == 5 && next.axis == 1 && next.test == '*' && !next.isPositional()
                && step.predicates.size() + next.predicates.size() <= 3) {
            step.predicates.addAll(next.predicates);
            steps.remove(i + 1);
            return true;
        }
        return false;
    }

    private static boolean usesPredicateRule(int rule, List<List<List<String>>> predicates, int p) {
        List<List<String>> predicate = predicates.get(p);
        if (rule == 6) {
            for (List<String> alternative : predicate) {
                if (alternative.size() > 1 && alternative.remove("?.*")) {
                    return true;
                }
            }
            return false;
        }
        if (rule == 7) {
            boolean used = predicate.contains(List.of("?.*"));
            if (used) {
                predicates.remove(p);
            }
            return used;
        }
        boolean used = p + 1 < predicates.size() && !isPositional(predicate)
                && predicateText(predicate).equals(predicateText(predicates.get(p + 1)));
        if (used) {
            predicates.remove(p + 1);
        }
        return used;
    }
}
