/** The sentences of the promises 9 to 15: texts, and the places of queries. */
final class TextPromises extends Sentences {
    private TextPromises() {
    }

    static void look() {
        type();
        clearText();
        read();
        written();
        size();
        unite();
        drop();
    }

    private static void type() {
        section("Promise 9: type");
        sentence("Appends a byte to the text.");
        TreeQueries x = new TreeQueries();
        x.type('b');
        x.type('/');
        x.type('a');
        is("read", x.read(0), 1);
        is("query", query(x, 0), "b/a");
        x.type('|');
        x.type('c');
        is("read with more", x.read(0), 2);
        is("query with more", query(x, 0), "b/a|c");

        sentence("- `value`: 0 to 127");
        takes(TreeQueries::new, 0, 127, (y, value) -> y.type(value));

        sentence("Returns the length of the text.");
        TreeQueries y = new TreeQueries();
        is("value 0", y.type(0), 1);
        is("value 127", y.type(127), 2);
        for (int length = 3; length <= 80; length++) {
            is("length", y.type('a'), length);
        }

        sentence("Throws `IllegalArgumentException` if value is out of range");
        refusesOutside(ARGUMENT, new TreeQueries(), 0, 127, (z, value) -> z.type(value));

        sentence("Throws `IllegalStateException` if the text has 80 bytes");
        refuses("byte 81", STATE, y, () -> y.type('a'));
        refuses("byte 81 of 0", STATE, y, () -> y.type(0));
        is("the length still", y.clearText(), 80);
        is("a byte behind that", y.type('a'), 1);
    }

    private static void clearText() {
        section("Promise 10: clearText");
        sentence("Empties the text.");
        TreeQueries x = new TreeQueries();
        type(x, "/b");
        x.clearText();
        is("the next byte", x.type('c'), 1);
        is("read", x.read(0), 1);
        is("query", query(x, 0), "c");
        x.clearText();
        is("nothing to read", x.read(0), -10);
        is("the query stays", query(x, 0), "c");

        sentence("Returns the length that it had.");
        TreeQueries y = new TreeQueries();
        is("empty", y.clearText(), 0);
        y.type('a');
        is("one byte", y.clearText(), 1);
        is("empty again", y.clearText(), 0);
        for (int i = 0; i < 80; i++) {
            y.type('a');
        }
        is("80 bytes", y.clearText(), 80);
        is("empty at last", y.clearText(), 0);
    }

    private static void read() {
        section("Promise 11: read");
        sentence("Lays the query of the text at a place. Undoable, if the text has no fault.");
        TreeQueries x = grownWith("h", "g", "f", "e");
        read(x, 2, "//a[1]|b");
        is("queries", queries(x), "h g /#*/a[1]|b e");
        x.read(0);
        is("the same text again", query(x, 0), "/#*/a[1]|b");
        isUndoable("read", () -> grownWith("a"), y -> y.read(1));
        isUndoable("read over a query", () -> grownWith("a|b"), y -> read(y, 0, "c"));
        isUndoable("read as it is", () -> grownWith("a"), y -> y.read(0));
        savesNothing("a fault", () -> grownWith("a"), y -> read(y, 1, "a["));

        sentence("- `query`: place of a query, 0 to 3");
        takes(() -> grownWith("a"), 0, 3, (y, place) -> y.read(place));

        sentence("Returns the number of its paths; -10 minus the fault if there is one (then nothing changes).");
        is("one path", read(grown(), 0, "a"), 1);
        is("four paths", read(grown(), 0, "a|b|c|d"), 4);
        is("the least fault", read(grown(), 0, ""), -10);
        is("the first byte", read(grown(), 0, "i"), -10);
        is("the second byte", read(grown(), 0, "ab"), -11);
        is("the last byte", read(grown(), 0, "a[1][1]."), -17);
        is("the end", read(grown(), 0, "a[1][1]/"), -18);
        String steps = "/" + "%a[=1][=2]/".repeat(7);
        is("the last of 80 bytes", read(grown(), 0, steps + "ai"), -89);
        is("the end of 80 bytes", read(grown(), 0, steps + "a|"), -90);
        fault("", 0);
        fault("a/", 2);
        fault("a|b|c|d|e", 7);

        sentence("Throws `IndexOutOfBoundsException` if there is no such place");
        refusesOutside(INDEX, grownWith("a"), 0, 3, (y, place) -> y.read(place));
        refusesOutside(INDEX, new TreeQueries(), 0, 3, (y, place) -> y.read(place));
    }

    private static void written() {
        section("Promise 12: written");
        sentence("Returns a byte of a query, written as a text.");
        TreeQueries x = grownWith("a", "b", "c", "//a[-=3]");
        String due = "/#*/a[-=3]";
        for (int i = 0; i < due.length(); i++) {
            is("byte " + i, x.written(3, i), due.charAt(i));
        }

        sentence("- `query`: place of a query, 0 to 3");
        is("place 0", x.written(0, 0), 'a');
        is("place 3", x.written(3, 0), '/');

        sentence("- `index`: 0 or more");
        takes(() -> grownWith("a"), 0, MOST, (y, index) -> y.written(0, index));

        sentence("Returns the byte; NONE if it is not so long.");
        is("the last byte", x.written(3, 9), ']');
        is("behind it", x.written(3, 10), NONE);
        is("far behind it", x.written(3, MOST), NONE);
        is("behind one byte", x.written(0, 1), NONE);
        is("behind a shorter one, which follows a longer one", x.written(1, 1), NONE);
        TreeQueries longest = new TreeQueries();
        read(longest, 0, "/" + "%a[=1][=2]/".repeat(7) + "%a");
        longest.unite(0, 0, 0);
        longest.unite(0, 0, 0);
        is("the last of four long paths", longest.written(0, 322), 'a');
        is("behind four long paths", longest.written(0, 323), NONE);
        is("80 bytes with two slashes", read(longest, 1, "//%a[=1,=2,=3][=1]".repeat(4) + "[?.a/.*]"), 1);
        longest.unite(1, 1, 1);
        longest.unite(1, 1, 1);
        is("the last of four longer paths", longest.written(1, 354), ']');
        is("behind four longer paths", longest.written(1, 355), NONE);

        sentence("Throws `IndexOutOfBoundsException` if there is no such place");
        refusesOutside(INDEX, x, 0, 3, (y, place) -> y.written(place, 0));

        sentence("Throws `IllegalArgumentException` if index is negative");
        refuses("index -1", ARGUMENT, x, () -> x.written(3, -1));
        refuses("the least index", ARGUMENT, x, () -> x.written(3, LEAST));

        sentence("Throws `IllegalStateException` if there is no query at this place");
        TreeQueries some = grownWith("a", "b");
        some.drop(0);
        for (int place : new int[] {0, 2, 3}) {
            refuses("place " + place, STATE, some, () -> some.written(place, 0));
        }
        is("the query between", some.written(1, 0), 'b');
    }

    private static void size() {
        section("Promise 13: size");
        sentence("Returns a value of a query.");
        String[] texts = {"a", "//a[1,-=2+?b/c/d][$]|b[?a]/c", "a[=1,=2,=3+=4,=5,=6+=7,=8,=9][?*][?*]", "a[=1]/b[-$]"};
        int[][] due = {{1, 1, 0, 0, 0, 1}, {2, 4, 3, 5, 1, 30}, {1, 1, 3, 11, 0, 37}, {1, 2, 2, 2, 1, 11}};
        TreeQueries x = grownWith(texts);
        for (int place = 0; place < 4; place++) {
            for (int what = 0; what < 6; what++) {
                is(texts[place] + ", size " + what, x.size(place, what), due[place][what]);
            }
        }

        sentence("- `query`: place of a query, 0 to 3");
        takes(() -> grownWith("a", "a", "a", "a"), 0, 3, (y, place) -> y.size(place, 0));

        sentence("- `what`: 0 paths, 1 steps of all paths (those of short paths not counted), 2 predicates, 3 conditions, "
                + "4 1 if a step is positional or 0 if not, 5 length when it is written");
        sizes("a", 1, 1, 0, 0, 0, 1);
        sizes("a|b|c|d", 4, 4, 0, 0, 0, 7);
        sizes("*[?a/b/c]", 1, 1, 1, 1, 0, 9);
        sizes("a/b/c/d/e/f/g/h|//a//b//c//d", 2, 16, 0, 0, 0, 36);
        sizes("a[=1][=1][=1]|b[=1][=1][=1]", 2, 2, 6, 6, 0, 27);
        sizes("a[1,2,3+4,5,6+7,8,9]", 1, 1, 1, 9, 1, 20);
        sizes("a|b|c|d[-$]", 4, 4, 1, 1, 1, 11);
        sizes("a/b/c/d/e/f/g/h[=1][?a][=1,=1+-1]", 1, 8, 3, 5, 1, 33);

        sentence("Returns that value.");
        x.rewrite(1);
        int[] dueThen = {2, 4, 3, 5, 1, 30};
        for (int what = 0; what < 6; what++) {
            is("after a rewriting that changes nothing, " + what, x.size(1, what), dueThen[what]);
        }
        read(x, 0, "//a[=1][=1]|/%a[=1]");
        x.rewrite(0);
        int[] dueShort = {1, 1, 1, 1, 0, 7};
        for (int what = 0; what < 6; what++) {
            is("after rewriting, " + what, x.size(0, what), dueShort[what]);
        }

        sentence("Throws `IndexOutOfBoundsException` if there is no such place");
        refusesOutside(INDEX, x, 0, 3, (y, place) -> y.size(place, 0));

        sentence("Throws `IllegalArgumentException` if what is out of range");
        refusesOutside(ARGUMENT, x, 0, 5, (y, what) -> y.size(0, what));

        sentence("Throws `IllegalStateException` if there is no query at this place");
        TreeQueries some = grownWith("a", "b");
        some.drop(0);
        for (int what = 0; what < 6; what++) {
            int told = what;
            refuses("size " + what + " at 0", STATE, some, () -> some.size(0, told));
            refuses("size " + what + " at 3", STATE, some, () -> some.size(3, told));
        }
    }

    private static void sizes(String text, int... due) {
        TreeQueries x = grownWith(text);
        for (int what = 0; what < 6; what++) {
            is(text + ", size " + what, x.size(0, what), due[what]);
        }
    }

    private static void unite() {
        section("Promise 14: unite");
        sentence("Lays the union of two queries at a place: the paths of the first one, and behind them those of the second "
                + "one. Undoable.");
        TreeQueries x = grownWith("a|b", "//c[1]");
        x.unite(2, 0, 1);
        is("at a third place", query(x, 2), "a|b|/#*/c[1]");
        x.unite(3, 1, 0);
        is("the other way round", query(x, 3), "/#*/c[1]|a|b");
        x.unite(0, 0, 1);
        is("on the first", query(x, 0), "a|b|/#*/c[1]");
        x.unite(1, 2, 1);
        is("on the second", query(x, 1), "a|b|/#*/c[1]|/#*/c[1]");
        is("the first stays", query(x, 2), "a|b|/#*/c[1]");
        TreeQueries same = grownWith("g|h");
        same.unite(0, 0, 0);
        is("with itself on itself", query(same, 0), "g|h|g|h");
        TreeQueries alone = grownWith("g|h");
        alone.unite(1, 0, 0);
        alone.rewrite(1);
        is("a query of its own", query(alone, 0) + " " + query(alone, 1), "g|h g|h");
        read(alone, 1, "c");
        is("a query of its own, still", query(alone, 0), "g|h");
        isUndoable("unite", () -> grownWith("a", "b"), y -> y.unite(2, 0, 1));
        isUndoable("unite on itself", () -> grownWith("a", "b"), y -> y.unite(0, 0, 0));

        sentence("- `query`: the place, 0 to 3");
        takes(() -> grownWith("a"), 0, 3, (y, place) -> y.unite(place, 0, 0));

        sentence("- `first`: place of the first query");
        takes(() -> grownWith("a", "b", "c", "d"), 0, 3, (y, first) -> y.unite(1, first, 2));

        sentence("- `second`: place of the second query");
        takes(() -> grownWith("a", "b", "c", "d"), 0, 3, (y, second) -> y.unite(1, 2, second));

        sentence("Returns the number of its paths.");
        is("1 and 1", grownWith("a", "b").unite(2, 0, 1), 2);
        is("2 and 1", grownWith("a|b", "b").unite(2, 0, 1), 3);
        is("1 and 2", grownWith("a|b", "b").unite(2, 1, 0), 3);
        is("2 and 2", grownWith("a|b").unite(3, 0, 0), 4);
        is("3 and 1", grownWith("a|b|c", "d").unite(0, 0, 1), 4);
        is("1 and 3", grownWith("a|b|c", "d").unite(0, 1, 0), 4);

        sentence("Throws `IndexOutOfBoundsException` if there is no such place");
        TreeQueries most = grownWith("a|b|c|d", "a|b|c", "a|b");
        refusesOutside(INDEX, most, 0, 3, (y, place) -> y.unite(place, 2, 2));
        refusesOutside(INDEX, most, 0, 3, (y, first) -> y.unite(0, first, 2));
        refusesOutside(INDEX, most, 0, 3, (y, second) -> y.unite(0, 2, second));

        sentence("Throws `IllegalStateException` if there is no query at first or second, or the union would have more than "
                + "4 paths");
        refuses("no first", STATE, most, () -> most.unite(0, 3, 2));
        refuses("no second", STATE, most, () -> most.unite(0, 2, 3));
        refuses("neither", STATE, most, () -> most.unite(0, 3, 3));
        refuses("5 paths", STATE, most, () -> most.unite(3, 1, 2));
        refuses("5 paths, the other way round", STATE, most, () -> most.unite(3, 2, 1));
        refuses("6 paths", STATE, most, () -> most.unite(1, 1, 1));
        refuses("8 paths", STATE, most, () -> most.unite(3, 0, 0));
        is("no query is wanted at the place", outcome(() -> most.unite(3, 2, 2)), "4");
    }

    private static void drop() {
        section("Promise 15: drop");
        sentence("Empties a place. Undoable.");
        TreeQueries x = grownWith("a", "b", "c", "d");
        x.drop(1);
        is("queries", queries(x), "a null c d");
        refuses("written there", STATE, x, () -> x.written(1, 0));
        isUndoable("drop", () -> grownWith("a|b"), y -> y.drop(0));
        isUndoable("drop of nothing", () -> grownWith("a|b"), y -> y.drop(1));

        sentence("- `query`: place of a query, 0 to 3");
        takes(() -> grownWith("a", "b", "c", "d"), 0, 3, (y, place) -> y.drop(place));
        takes(TreeQueries::new, 0, 3, (y, place) -> y.drop(place));

        sentence("Returns 1 if there was a query, 0 if not.");
        is("a query", x.drop(3), 1);
        is("none any more", x.drop(3), 0);
        is("none from the begin", new TreeQueries().drop(0), 0);
        is("four paths", grownWith("a|b|c|d").drop(0), 1);

        sentence("Throws `IndexOutOfBoundsException` if there is no such place");
        refusesOutside(INDEX, grownWith("a", "b", "c", "d"), 0, 3, (y, place) -> y.drop(place));
    }
}
