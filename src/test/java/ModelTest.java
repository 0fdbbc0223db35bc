import java.util.Random;

/**
 * Long runs of calls on the program and on the model, which must agree in every answer, every exception and every
 * digest. The seeds are fixed, so that a run can be run again.
 */
public final class ModelTest {
    private static final int RUNS = 160;
    private static final int MOST_CALLS = 512;
    private static final int SHOWN = 10;
    private static final int[] WILD = {-1, -2, Integer.MIN_VALUE, Integer.MAX_VALUE, 4, 8, 10, 40, 41, 64, 80, 128};
    private static final String[] NAMES = {"addNode", "removeNode", "moveNode", "setNode", "nodes", "node", "axis",
        "type", "clearText", "read", "written", "size", "unite", "drop", "count", "selected", "sum", "given",
        "differences", "rewrite", "uses", "undo", "digest"};

    private static int wrong = 0;

    private final Random random;
    private final TreeQueries program = new TreeQueries();
    private final Model model = new Model();
    private final int run;
    private int calls = 0;

    private ModelTest(int number) {
        run = number;
        random = new Random(7919L * number + 18335);
    }

    public static void main(String[] args) {
        int total = 0;
        for (int run = 0; run < RUNS && wrong < SHOWN; run++) {
            total += new ModelTest(run).walk();
        }
        System.out.println(wrong == 0 ? total + " calls agree with the model" : "the model is not met");
        if (wrong != 0) {
            System.exit(1);
        }
    }

    private int walk() {
        grow(run % 5 == 0 ? 39 : random.nextInt(25));
        while (calls < MOST_CALLS && wrong < SHOWN) {
            int kind = random.nextInt(100);
            if (kind < 14) {
                layQuery();
            } else if (kind < 16) {
                compare("digest");
            } else if (kind < 20) {
                compare("undo");
            } else {
                compare(NAMES[random.nextInt(NAMES.length)]);
            }
        }
        calls = 0;
        compare("digest");
        return MOST_CALLS;
    }

    private void grow(int nodes) {
        for (int i = 0; i < nodes; i++) {
            int parent = run % 3 == 0 ? model.nodes() - 1 : random.nextInt(model.nodes());
            // Few names and values, so that tests of both often hold.
            compare("addNode", parent, random.nextInt(3), random.nextInt(3));
        }
    }

    private void layQuery() {
        compare("clearText");
        String text = new Texts(random).text();
        for (int i = 0; i < text.length(); i++) {
            compare("type", text.charAt(i));
        }
        int place = random.nextInt(4);
        compare("read", place);
        look(place);
        if (random.nextInt(3) > 0) {
            compare("rewrite", place);
            look(place);
        }
    }

    /** Looks at a whole query beside the counted calls, for a fault that shows in few of its bytes. */
    private void look(int place) {
        String due = model.queryAt(place);
        int before = calls;
        for (int i = 0; due != null && i <= due.length(); i++) {
            compare("written", place, i);
        }
        for (int rule = 1; rule <= 9; rule++) {
            compare("uses", place, rule);
        }
        for (int context = 0; context < model.nodes(); context++) {
            compare("count", place, context);
            compare("sum", place, context);
        }
        calls = before;
    }

    private void compare(String name) {
        compare(name, argumentsOf(name));
    }

    private void compare(String name, int... a) {
        if (calls >= MOST_CALLS || wrong >= SHOWN) {
            return;
        }
        calls++;
        String due = outcome(() -> onModel(name, a));
        String got = outcome(() -> onProgram(name, a));
        if (!due.equals(got)) {
            wrong++;
            StringBuilder call = new StringBuilder();
            for (int argument : a) {
                call.append(call.length() > 0 ? ", " : "").append(argument);
            }
            System.out.println("run " + run + ", call " + calls + ": " + name + "(" + call + ") answered " + got
                    + ", due is " + due);
            for (int place = 0; place < 4; place++) {
                System.out.println("  query " + place + ": " + model.queryAt(place));
            }
        }
    }

    private int[] argumentsOf(String name) {
        switch (name) {
            case "addNode":
                return new int[] {node(), below(8), below(10)};
            case "removeNode":
                // Seldom, so that trees grow.
                return new int[] {random.nextInt(4) == 0 ? node() : model.nodes() - 1};
            case "moveNode":
                return new int[] {node(), node()};
            case "setNode":
                return new int[] {node(), below(8), below(10)};
            case "node":
                return new int[] {node(), below(6)};
            case "axis":
                return new int[] {node(), below(10), below(6)};
            case "type":
                return new int[] {below(128)};
            case "read":
            case "rewrite":
                return new int[] {below(4)};
            case "drop":
                return new int[] {random.nextInt(4) == 0 ? below(4) : -1};
            case "written":
                return new int[] {below(4), below(30)};
            case "size":
                return new int[] {below(4), below(6)};
            case "unite":
                return new int[] {below(4), below(4), below(4)};
            case "count":
            case "sum":
                return new int[] {below(4), node()};
            case "selected":
                return new int[] {below(4), node(), below(5)};
            case "given":
                return new int[] {below(4), below(3), below(4), node()};
            case "differences":
                return new int[] {below(4), below(4)};
            case "uses":
                return new int[] {below(4), 1 + below(9)};
            default:
                return new int[0];
        }
    }

    private int node() {
        return below(model.nodes());
    }

    private int below(int bound) {
        return random.nextInt(25) == 0 ? WILD[random.nextInt(WILD.length)] : random.nextInt(bound);
    }

    private interface Call {
        long answer();
    }

    private static String outcome(Call call) {
        try {
            return Long.toString(call.answer());
        } catch (RuntimeException e) {
            // The very class: what the machine throws has a class below these.
            return "throws." + e.getClass().getSimpleName();
        }
    }

    private long onProgram(String name, int[] a) {
        switch (name) {
            case "addNode": return program.addNode(a[0], a[1], a[2]);
            case "removeNode": return program.removeNode(a[0]);
            case "moveNode": return program.moveNode(a[0], a[1]);
            case "setNode": return program.setNode(a[0], a[1], a[2]);
            case "nodes": return program.nodes();
            case "node": return program.node(a[0], a[1]);
            case "axis": return program.axis(a[0], a[1], a[2]);
            case "type": return program.type(a[0]);
            case "clearText": return program.clearText();
            case "read": return program.read(a[0]);
            case "written": return program.written(a[0], a[1]);
            case "size": return program.size(a[0], a[1]);
            case "unite": return program.unite(a[0], a[1], a[2]);
            case "drop": return program.drop(a[0]);
            case "count": return program.count(a[0], a[1]);
            case "selected": return program.selected(a[0], a[1], a[2]);
            case "sum": return program.sum(a[0], a[1]);
            case "given": return program.given(a[0], a[1], a[2], a[3]);
            case "differences": return program.differences(a[0], a[1]);
            case "rewrite": return program.rewrite(a[0]);
            case "uses": return program.uses(a[0], a[1]);
            case "undo": return program.undo();
            default: return program.digest();
        }
    }

    private long onModel(String name, int[] a) {
        switch (name) {
            case "addNode": return model.addNode(a[0], a[1], a[2]);
            case "removeNode": return model.removeNode(a[0]);
            case "moveNode": return model.moveNode(a[0], a[1]);
            case "setNode": return model.setNode(a[0], a[1], a[2]);
            case "nodes": return model.nodes();
            case "node": return model.node(a[0], a[1]);
            case "axis": return model.axis(a[0], a[1], a[2]);
            case "type": return model.type(a[0]);
            case "clearText": return model.clearText();
            case "read": return model.read(a[0]);
            case "written": return model.written(a[0], a[1]);
            case "size": return model.size(a[0], a[1]);
            case "unite": return model.unite(a[0], a[1], a[2]);
            case "drop": return model.drop(a[0]);
            case "count": return model.count(a[0], a[1]);
            case "selected": return model.selected(a[0], a[1], a[2]);
            case "sum": return model.sum(a[0], a[1]);
            case "given": return model.given(a[0], a[1], a[2], a[3]);
            case "differences": return model.differences(a[0], a[1]);
            case "rewrite": return model.rewrite(a[0]);
            case "uses": return model.uses(a[0], a[1]);
            case "undo": return model.undo();
            default: return model.digest();
        }
    }
}
