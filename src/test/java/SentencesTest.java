/** Every sentence of the document by itself: what it says, the edges that it names, and what it refuses. */
public final class SentencesTest extends Sentences {
    public static void main(String[] args) {
        whatItIs();
        TreeSentences.look();
        QuerySentences.look();
        TextSentences.look();
        RewritingSentences.look();
        UndoSentences.look();
        TreePromises.look();
        TextPromises.look();
        EvaluationPromises.look();
        StatePromises.look();
        notPromised();
        everythingIsQuoted();
        end();
    }

    private static void whatItIs() {
        section("What it is");
        about("An evaluator of path queries over a document tree: ten axes, name tests, predicates with positions, "
                + "values and existence, unions, queries that are read from a text and written as one, a rewriter that "
                + "makes them shorter by fixed rules, and comparisons of queries.");
        sentence("An object is used for at most 512 calls after it has been made; what later calls answer is free.");
        TreeQueries same = new TreeQueries();
        for (int call = 1; call <= 512; call++) {
            int before = call - 1;
            is("call " + call, same.setNode(0, call % 8, call % 10), 10 * (before % 8) + before % 10);
        }
        TreeQueries mixed = grownWith("//a|//a");
        // 7 calls for nodes and 9 for the query, then 123 rounds of 4 calls: four calls are left.
        for (int round = 1; round <= 123; round++) {
            is("rewrite in round " + round, mixed.rewrite(0), 3);
            is("read in round " + round, mixed.read(0), 2);
            is("undo in round " + round, mixed.undo(), 3);
            is("read again in round " + round, mixed.read(0), 2);
        }
        is("call 509", mixed.written(0, 1), '#');
        is("call 510", mixed.uses(0, 2), 2);
        is("call 511", mixed.sum(0, 0), 14);
        is("call 512", mixed.count(0, 0), 3);
    }

    private static void notPromised() {
        section("Not promised");
        about("How the state is held inside the object is free, as are the speed of each call, the text of toString "
                + "and the behaviour of equals and hashCode. Use of one object from several threads at once is not "
                + "promised to be safe. Nothing is promised beyond the answers and state changes described above, and "
                + "nothing about an object after its 512th call.");
    }
}
