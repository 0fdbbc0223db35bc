/** The sentences of the promises 16 to 20: what queries select. */
final class EvaluationPromises extends Sentences {
    private EvaluationPromises() {
    }

    static void look() {
        count();
        selected();
        sum();
        given();
        differences();
    }

    private static TreeQueries four() {
        return grownWith("*", "%a", "h", "/.*|{*");
    }

    private static TreeQueries most() {
        TreeQueries x = wide(40);
        read(x, 0, "#*");
        return x;
    }

    private static void count() {
        section("Promise 16: count");
        sentence("Returns how many nodes a query selects.");
        TreeQueries x = four();
        is("children of the root", x.count(0, 0), 2);
        is("children of a leaf", x.count(0, 7), 0);
        is("named", x.count(1, 0), 3);
        is("none", x.count(2, 0), 0);
        is("two paths", x.count(3, 7), 6);
        is("two paths from the root", x.count(3, 0), 1);
        x.removeNode(1);
        is("named when some are gone", x.count(1, 0), 1);

        sentence("- `query`: place of a query, 0 to 3");
        takes(EvaluationPromises::four, 0, 3, (y, place) -> y.count(place, 0));

        sentence("- `context`: number of the context node");
        takes(EvaluationPromises::four, 0, 7, (y, context) -> y.count(0, context));
        takes(EvaluationPromises::most, 0, 39, (y, context) -> y.count(0, context));

        sentence("Returns the number.");
        is("0", grownWith("h").count(0, 0), 0);
        is("40", most().count(0, 0), 40);
        is("one of 40", most().count(0, 39), 1);
        is("each once", grownWith("*|%*|#*|*").count(0, 0), 8);

        sentence("Throws `IndexOutOfBoundsException` if there is no such place or node");
        refusesOutside(INDEX, four(), 0, 3, (y, place) -> y.count(place, 0));
        refusesOutside(INDEX, four(), 0, 7, (y, context) -> y.count(0, context));
        refusesOutside(INDEX, most(), 0, 39, (y, context) -> y.count(0, context));
        refusesOutside(INDEX, grownWith("/a"), 0, 7, (y, context) -> y.count(0, context));

        sentence("Throws `IllegalStateException` if there is no query at this place");
        TreeQueries some = grownWith("a", "b");
        some.drop(0);
        for (int place : new int[] {0, 2, 3}) {
            refuses("place " + place, STATE, some, () -> some.count(place, 0));
        }
    }

    private static void selected() {
        section("Promise 17: selected");
        sentence("Returns a node that a query selects.");
        TreeQueries x = four();
        is("a child", x.selected(0, 0, 1), 5);
        is("a descendant", x.selected(1, 0, 1), 4);
        is("of two paths", x.selected(3, 7, 0), 0);
        is("of two paths, the last", x.selected(3, 7, 5), 6);

        sentence("- `query`: place of a query, 0 to 3");
        takes(EvaluationPromises::four, 0, 3, (y, place) -> y.selected(place, 0, 0));

        sentence("- `context`: number of the context node");
        takes(EvaluationPromises::four, 0, 7, (y, context) -> y.selected(0, context, 0));
        takes(EvaluationPromises::most, 0, 39, (y, context) -> y.selected(0, context, 0));

        sentence("- `index`: 0 or more; in document order");
        takes(EvaluationPromises::four, 0, MOST, (y, index) -> y.selected(0, 0, index));
        is("in document order", chosen(grownWith("{*"), 0, 7), "1 2 3 4 6");
        is("in document order, of two paths", chosen(grownWith("c|b|~*"), 0, 0), "1 5");
        is("the first of 40", most().selected(0, 0, 0), 0);
        is("the last of 40", most().selected(0, 0, 39), 39);

        sentence("Returns the node; NONE if it does not select so many.");
        is("behind the last", x.selected(0, 0, 2), NONE);
        is("far behind", x.selected(0, 0, MOST), NONE);
        is("63 behind", x.selected(0, 0, 63), NONE);
        is("64 behind", x.selected(0, 0, 64), NONE);
        is("of none", x.selected(2, 0, 0), NONE);
        is("behind the last of 40", most().selected(0, 0, 40), NONE);

        sentence("Throws `IndexOutOfBoundsException` if there is no such place or node");
        refusesOutside(INDEX, four(), 0, 3, (y, place) -> y.selected(place, 0, 0));
        refusesOutside(INDEX, four(), 0, 7, (y, context) -> y.selected(0, context, 0));
        refusesOutside(INDEX, most(), 0, 39, (y, context) -> y.selected(0, context, 0));

        sentence("Throws `IllegalArgumentException` if index is negative");
        refuses("index -1", ARGUMENT, x, () -> x.selected(0, 0, -1));
        refuses("index -1 of none", ARGUMENT, x, () -> x.selected(2, 0, -1));
        refuses("the least index", ARGUMENT, x, () -> x.selected(0, 0, LEAST));

        sentence("Throws `IllegalStateException` if there is no query at this place");
        TreeQueries some = grownWith("a", "b");
        some.drop(0);
        for (int place : new int[] {0, 2, 3}) {
            refuses("place " + place, STATE, some, () -> some.selected(place, 0, 0));
        }
    }

    private static void sum() {
        section("Promise 18: sum");
        sentence("Returns the sum of the values of the nodes that a query selects.");
        TreeQueries x = grownWith("#*", "%*[?^b]|%*|h", "h", "/*");
        is("all", x.sum(0, 0), 28);
        is("below a node", x.sum(0, 1), 13);
        is("each once", x.sum(1, 1), 12);
        is("from the root", x.sum(3, 7), 3);
        x.setNode(4, 0, 9);
        is("with another value", x.sum(1, 1), 16);

        sentence("- `query`: place of a query, 0 to 3");
        takes(EvaluationPromises::four, 0, 3, (y, place) -> y.sum(place, 0));

        sentence("- `context`: number of the context node");
        takes(EvaluationPromises::four, 0, 7, (y, context) -> y.sum(0, context));
        takes(EvaluationPromises::most, 0, 39, (y, context) -> y.sum(0, context));

        sentence("Returns the sum.");
        is("of none", x.sum(2, 0), 0);
        is("of zeros", grownWith(".*").sum(0, 0), 0);
        TreeQueries nines = new TreeQueries();
        nines.setNode(0, 0, 9);
        for (int i = 1; i < 40; i++) {
            nines.addNode(i / 2, 0, 9);
        }
        read(nines, 0, "#*");
        is("the greatest", nines.sum(0, 0), 360);
        is("of the last of 40", most().sum(0, 39), 9);

        sentence("Throws `IndexOutOfBoundsException` if there is no such place or node");
        refusesOutside(INDEX, four(), 0, 3, (y, place) -> y.sum(place, 0));
        refusesOutside(INDEX, four(), 0, 7, (y, context) -> y.sum(0, context));
        refusesOutside(INDEX, most(), 0, 39, (y, context) -> y.sum(0, context));

        sentence("Throws `IllegalStateException` if there is no query at this place");
        TreeQueries some = grownWith("a", "b");
        some.drop(0);
        for (int place : new int[] {0, 2, 3}) {
            refuses("place " + place, STATE, some, () -> some.sum(place, 0));
        }
    }

    private static void given() {
        section("Promise 19: given");
        sentence("Counts the nodes that a single step of a path gives for a node.");
        TreeQueries x = grownWith("h/%*[-1]|//a", "a", "b", "~*[2]");
        is("a step alone", x.given(0, 0, 1, 0), 6);
        is("for another node", x.given(0, 0, 1, 5), 1);
        is("the first step", x.given(0, 0, 0, 0), 0);
        is("a step #*", x.given(0, 1, 0, 1), 4);
        is("the last step", x.given(0, 1, 1, 5), 1);
        is("with a position", x.given(3, 0, 0, 4), 1);
        is("with a position too great", x.given(3, 0, 0, 1), 0);

        sentence("- `query`: place of a query, 0 to 3");
        takes(EvaluationPromises::four, 0, 3, (y, place) -> y.given(place, 0, 0, 0));

        sentence("- `path`: number of a path, from 0");
        takes(() -> grownWith("a|b|c|d"), 0, 3, (y, path) -> y.given(0, path, 0, 0));
        takes(() -> grownWith("a|b"), 0, 1, (y, path) -> y.given(0, path, 0, 0));
        TreeQueries paths = grownWith("a|b|%a|%b");
        int[] dueOfPaths = {0, 1, 3, 3};
        for (int path = 0; path < 4; path++) {
            is("path " + path, paths.given(0, path, 0, 0), dueOfPaths[path]);
        }

        sentence("- `step`: number of a step, from 0");
        takes(() -> grownWith("a/b/c/d/e/f/g/h"), 0, 7, (y, step) -> y.given(0, 0, step, 0));
        takes(() -> grownWith("//a"), 0, 1, (y, step) -> y.given(0, 0, step, 0));
        TreeQueries steps = grownWith("a/b/*/.*/%a/%*/#*/>*");
        int[] dueOfSteps = {0, 1, 2, 1, 3, 7, 8, 0};
        for (int step = 0; step < 8; step++) {
            is("step " + step, steps.given(0, 0, step, 0), dueOfSteps[step]);
        }

        sentence("- `node`: number of a node");
        takes(EvaluationPromises::four, 0, 7, (y, node) -> y.given(0, 0, 0, node));
        takes(EvaluationPromises::most, 0, 39, (y, node) -> y.given(0, 0, 0, node));

        sentence("Returns the number.");
        is("0", grownWith("h").given(0, 0, 0, 0), 0);
        is("40", most().given(0, 0, 0, 0), 40);
        TreeQueries full = wide(40);
        read(full, 3, "a/b/c/d/e/f/g/h|a/b/c/d/e/f/g/h|a/b/c/d/e/f/g/h|a/b/c/d/e/f/g/<*");
        is("the last step of the last path for the last node", full.given(3, 3, 7, 39), 38);
        is("an absolute path all the same", grownWith("/*").given(0, 0, 0, 3), 1);

        sentence("Throws `IndexOutOfBoundsException` if there is no such place or node");
        refusesOutside(INDEX, four(), 0, 3, (y, place) -> y.given(place, 0, 0, 0));
        refusesOutside(INDEX, four(), 0, 7, (y, node) -> y.given(0, 0, 0, node));
        refusesOutside(INDEX, most(), 0, 39, (y, node) -> y.given(0, 0, 0, node));

        sentence("Throws `IllegalStateException` if there is no query at this place");
        TreeQueries some = grownWith("a", "b");
        some.drop(0);
        for (int place : new int[] {0, 2, 3}) {
            refuses("place " + place, STATE, some, () -> some.given(place, 0, 0, 0));
        }

        sentence("Throws `IllegalArgumentException` if there is no such path or step");
        refusesOutside(ARGUMENT, grownWith("a"), 0, 0, (y, path) -> y.given(0, path, 0, 0));
        refusesOutside(ARGUMENT, grownWith("a|b|c|d"), 0, 3, (y, path) -> y.given(0, path, 0, 0));
        refusesOutside(ARGUMENT, grownWith("a"), 0, 0, (y, step) -> y.given(0, 0, step, 0));
        refusesOutside(ARGUMENT, grownWith("a/b/c|d/e"), 0, 1, (y, step) -> y.given(0, 1, step, 0));
        refusesOutside(ARGUMENT, grownWith("a/b/c/d/e/f/g/h"), 0, 7, (y, step) -> y.given(0, 0, step, 0));
    }

    private static void differences() {
        section("Promise 20: differences");
        sentence("Compares two queries.");
        TreeQueries x = grownWith("b/a", "//a[1]", "%a", "#*/a");
        is("written alike", x.differences(1, 1), 0);
        is("another writing of the same", x.differences(2, 3), 0);
        is("others", x.differences(0, 1), 8);
        is("as many, but others", grownWith("*[1]", "*[$]").differences(0, 1), 3);

        sentence("- `first`: place of a query");
        takes(EvaluationPromises::four, 0, 3, (y, first) -> y.differences(first, 1));

        sentence("- `second`: place of a query");
        takes(EvaluationPromises::four, 0, 3, (y, second) -> y.differences(1, second));

        sentence("Returns the number of context nodes from which they do not select the same nodes.");
        is("some contexts", x.differences(0, 2), 4);
        is("the other way round", x.differences(2, 0), 4);
        is("the last context alone", grownWith(".*[=7]", "h").differences(0, 1), 1);
        is("the root alone", grownWith(".*[=0]", "h").differences(0, 1), 1);
        TreeQueries full = wide(40);
        read(full, 0, ".*");
        read(full, 1, "h");
        is("all 40 contexts", full.differences(0, 1), 40);
        TreeQueries alone = new TreeQueries();
        read(alone, 0, ".*");
        read(alone, 3, "*");
        is("the one context", alone.differences(0, 3), 1);

        sentence("Throws `IndexOutOfBoundsException` if there is no such place");
        refusesOutside(INDEX, four(), 0, 3, (y, first) -> y.differences(first, 0));
        refusesOutside(INDEX, four(), 0, 3, (y, second) -> y.differences(0, second));

        sentence("Throws `IllegalStateException` if there is no query at one of the places");
        TreeQueries some = grownWith("a", "b");
        some.drop(0);
        refuses("no first", STATE, some, () -> some.differences(0, 1));
        refuses("no second", STATE, some, () -> some.differences(1, 0));
        refuses("neither", STATE, some, () -> some.differences(0, 3));
        refuses("the same place", STATE, some, () -> some.differences(2, 2));
    }
}
