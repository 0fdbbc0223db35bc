import java.math.BigInteger;

/** The sentences of the promises 21 to 24: rewriting, undo and the digest. */
final class StatePromises extends Sentences {
    private StatePromises() {
    }

    static void look() {
        rewrite();
        uses();
        undo();
        digest();
    }

    private static void rewrite() {
        section("Promise 21: rewrite");
        sentence("Rewrites a query. Undoable.");
        TreeQueries x = grownWith("//a", "//a", "//a|//b", "//a");
        x.rewrite(2);
        is("queries", queries(x), "/#*/a /#*/a /%a|/%b /#*/a");
        isUndoable("rewrite", () -> grownWith("//a|//a"), y -> y.rewrite(0));
        isUndoable("rewrite that changes nothing", () -> grownWith("a"), y -> y.rewrite(0));

        sentence("- `query`: place of a query, 0 to 3");
        takes(() -> grownWith("a", "b", "c", "d"), 0, 3, (y, place) -> y.rewrite(place));

        sentence("Returns how often rules were used (Rule 9: once for each path that is removed).");
        is("none", grownWith("a").rewrite(0), 0);
        is("one", grownWith("//a").rewrite(0), 1);
        is("two rules", grownWith("a/.*[?.*]").rewrite(0), 2);
        is("of four paths", grownWith("//a|//b|//c|//d").rewrite(0), 4);
        is("one path removed", grownWith("a|a").rewrite(0), 1);
        is("three paths removed", grownWith("a|a|a|a").rewrite(0), 3);
        is("four uses, and three paths removed", grownWith("//a|//a|//a|//a").rewrite(0), 7);
        is("seven of one rule", grownWith(".*/.*/.*/.*/.*/.*/.*/.*").rewrite(0), 7);

        sentence("Throws `IndexOutOfBoundsException` if there is no such place");
        refusesOutside(INDEX, grownWith("a", "b", "c", "d"), 0, 3, (y, place) -> y.rewrite(place));

        sentence("Throws `IllegalStateException` if there is no query at this place");
        TreeQueries some = grownWith("a", "b");
        some.drop(0);
        for (int place : new int[] {0, 2, 3}) {
            refuses("place " + place, STATE, some, () -> some.rewrite(place));
        }
    }

    private static void uses() {
        section("Promise 22: uses");
        sentence("Returns how often a rule would be used by rewrite().");
        TreeQueries x = grownWith(".*/a/.*|//a|//%b|a/^*/.*[=1]", "a[?.*,?.*]|a[=2][=2]|a|a[=2]");
        int[] dueOfFirst = {2, 1, 1, 1, 1, 0, 0, 0, 0};
        int[] dueOfSecond = {0, 0, 0, 0, 0, 1, 1, 1, 2};
        for (int rule = 1; rule <= 9; rule++) {
            is("rule " + rule + " of the first", x.uses(0, rule), dueOfFirst[rule - 1]);
            is("rule " + rule + " of the second", x.uses(1, rule), dueOfSecond[rule - 1]);
            is("rule " + rule + " of the first again", x.uses(0, rule), dueOfFirst[rule - 1]);
        }
        is("the first query stays", query(x, 0), ".*/a/.*|/#*/a|/#*/%b|a/^*/.*[=1]");
        is("the second query stays", query(x, 1), "a[?.*,?.*]|a[=2][=2]|a|a[=2]");
        is("rewrite uses as many", x.rewrite(0) + " " + x.rewrite(1), "6 5");

        sentence("- `query`: place of a query, 0 to 3");
        takes(() -> grownWith("a", "b", "c", "d"), 0, 3, (y, place) -> y.uses(place, 1));

        sentence("- `rule`: 1 to 9");
        takes(() -> grownWith("a"), 1, 9, (y, rule) -> y.uses(0, rule));

        sentence("Returns the number.");
        is("none", grownWith("a").uses(0, 1), 0);
        is("seven", grownWith(".*/.*/.*/.*/.*/.*/.*/.*").uses(0, 1), 7);
        is("three", grownWith("a|a|a|a").uses(0, 9), 3);

        sentence("Throws `IndexOutOfBoundsException` if there is no such place");
        refusesOutside(INDEX, grownWith("a", "b", "c", "d"), 0, 3, (y, place) -> y.uses(place, 1));

        sentence("Throws `IllegalArgumentException` if rule is out of range");
        refusesOutside(ARGUMENT, grownWith("a"), 1, 9, (y, rule) -> y.uses(0, rule));

        sentence("Throws `IllegalStateException` if there is no query at this place");
        TreeQueries some = grownWith("a", "b");
        some.drop(0);
        for (int place : new int[] {0, 2, 3}) {
            refuses("place " + place, STATE, some, () -> some.uses(place, 9));
        }
    }

    private static void undo() {
        section("Promise 23: undo");
        sentence("Restores the latest saved state and removes it from the undo stack.");
        TreeQueries x = grownWith("//a");
        x.rewrite(0);
        x.moveNode(1, 5);
        x.removeNode(1);
        x.drop(0);
        x.undo();
        is("drop", query(x, 0), "/%a");
        x.undo();
        is("remove", x.nodes(), 8);
        x.undo();
        is("move", tree(x), tree(grown()));
        x.undo();
        is("rewrite", query(x, 0), "/#*/a");
        is("what it selects", chosen(x, 0, 0), "2 4 6");
        is("no state is left", outcome(x::undo), "IllegalStateException");
        TreeQueries y = grown();
        y.setNode(0, 1, 1);
        y.undo();
        y.undo();
        is("not the same state again", y.nodes(), 7);

        sentence("Returns the number of states that are left on the stack.");
        TreeQueries one = new TreeQueries();
        one.addNode(0, 1, 1);
        is("of one", one.undo(), 0);
        TreeQueries four = grown();
        for (int left = 3; left >= 0; left--) {
            is("of " + (left + 1), four.undo(), left);
        }
        four.setNode(0, 7, 7);
        four.drop(0);
        is("of two then", four.undo(), 1);

        sentence("Throws `IllegalStateException` if the stack is empty");
        TreeQueries fresh = new TreeQueries();
        refuses("of a new object", STATE, fresh, fresh::undo);
        refuses("of a new object, again", STATE, fresh, fresh::undo);
        is("one state is left", four.undo(), 0);
        refuses("when all are undone", STATE, four, four::undo);
        four.drop(0);
        is("one more", four.undo(), 0);
        refuses("when that is undone", STATE, four, four::undo);
    }

    private static void digest() {
        section("Promise 24: digest");
        sentence("Returns a hash of the state.");
        isDigested("with queries", StatePromises::withUnion, 4, 17);
        TreeQueries x = withUnion();
        is("again", x.digest() + x.digest(), 2 * withUnion().digest());
        x.setNode(7, 1, 8);
        is("in another state", x.digest() == withUnion().digest(), false);

        sentence("It starts with h = 18335.");
        long alone = 18335;
        for (int value : new int[] {0, 0, 1, 0, 0, -1, 0, 0, 0, 0, 0, 0, 0}) {
            alone = 31 * alone + value;
        }
        is("a new object", new TreeQueries().digest(), alone);

        sentence("For each of the following values v, in this order, h becomes 31 * h + v (long arithmetic, overflow wraps).");
        BigInteger whole = BigInteger.valueOf(18335);
        for (int value : digestValues(withUnion(), 4, 17)) {
            whole = whole.multiply(BigInteger.valueOf(31)).add(BigInteger.valueOf(value));
        }
        is("the hash is far greater than a long", whole.bitLength() > 1000, true);
        is("its last 64 bits", withUnion().digest(), whole.longValue());
        is("a hash below zero", sharedRun().digest(), -3629117573375304454L);

        sentence("the number of states on the undo stack, the length of the text; nodes(), and for each node node() of 0 to "
                + "5;");
        for (int drops = 0; drops <= 6; drops++) {
            int saved = drops;
            isDigested(saved + " calls saved", () -> dropped(saved), Math.min(saved, 4), 0);
        }
        TreeQueries undone = dropped(6);
        undone.undo();
        is("3 states", undone.digest(), dropped(3).digest());
        for (int typed = 0; typed <= 80; typed++) {
            int length = typed;
            isDigested(length + " bytes", () -> typed(length, 127), 0, length);
        }
        isDigested("40 nodes", () -> chain(40), 4, 0);
        isDigested("8 nodes", Checks::grown, 4, 0);

        sentence("for each place 1 if there is a query or 0 if not, and, if there is one, size() of 0 to 5, all bytes of it "
                + "as they are written, for each context node count() and sum(), and uses() of 1 to 9.");
        for (int place = 0; place < 4; place++) {
            int query = place;
            isDigested("a query at " + place + " alone", () -> withOne(query), 4, 24);
        }
        isDigested("a query at each place", StatePromises::withFour, 4, 5);
        isDigested("three queries", () -> {
            TreeQueries three = withFour();
            three.drop(1);
            return three;
        }, 4, 5);

        sentence("Returns the hash.");
        is("of a new object", new TreeQueries().digest(), new TreeQueries().digest());
        is("the text counts by its length alone", typed(2, 'a').digest(), typed(2, 'b').digest());
    }

    private static TreeQueries withUnion() {
        TreeQueries x = grownWith("//a[1]|.*/b|b");
        read(x, 2, "a[?.*][=1][=1]/^*");
        x.unite(3, 0, 2);
        return x;
    }

    private static TreeQueries withOne(int place) {
        TreeQueries x = grown();
        read(x, place, "%a[-=3]|//.*/b[?.*]|b[1]");
        return x;
    }

    private static TreeQueries withFour() {
        return grownWith("a[?.*,=1][=1]|a[=1]", "a/^*|%*", "//%a|.*/a/.*[=3]", "{*[$]");
    }

    private static TreeQueries dropped(int times) {
        TreeQueries x = new TreeQueries();
        for (int i = 0; i < times; i++) {
            x.drop(0);
        }
        return x;
    }

    private static TreeQueries typed(int length, int sign) {
        TreeQueries x = new TreeQueries();
        for (int i = 0; i < length; i++) {
            x.type(sign);
        }
        return x;
    }

    /** The calls of a run in the shared tests. */
    private static TreeQueries sharedRun() {
        TreeQueries x = grown();
        x.moveNode(3, 0);
        x.moveNode(1, 7);
        x.moveNode(1, 0);
        x.removeNode(5);
        x.setNode(1, 7, 9);
        x.undo();
        x.undo();
        return x;
    }
}
