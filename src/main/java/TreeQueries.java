import java.util.Arrays;

/** Path queries over a document tree. The document of the project says what each call answers. */
public final class TreeQueries {
    public static final int NONE = -1;
    public static final int CHILD = 0, SELF = 1, DESCENDANT = 2, DESCENDANT_OR_SELF = 3, FOLLOWING_SIBLING = 4,
            FOLLOWING = 5, PARENT = 6, ANCESTOR = 7, PRECEDING_SIBLING = 8, PRECEDING = 9;

    private static final int MOST_NODES = 40;
    private static final int NAMES = 8;
    private static final int VALUES = 10;
    private static final int ANY = NAMES;
    private static final int NODE_KINDS = 6;

    private static final int PLACES = 4;
    private static final int MOST_PATHS = 4;
    private static final int MOST_STEPS = 8;
    private static final int MOST_PREDICATES = 3;
    private static final int MOST_SHORT_STEPS = 3;
    private static final int ALTERNATIVE_SLOTS = 3;
    private static final int PREDICATE_SLOTS = 3 * ALTERNATIVE_SLOTS;
    private static final int STEP_SLOTS = MOST_PREDICATES * PREDICATE_SLOTS;
    private static final int SIZE_KINDS = 6;
    private static final int RULES = 9;

    private static final int TEXT_BYTES = 80;
    // Four paths of 80 bytes, each longer by its written #* and by uses of rule 4, stay far below this.
    private static final int WRITTEN_BYTES = 1024;
    private static final int SAVED_STATES = 4;
    private static final int FAULT_BASE = -10;
    private static final long FIRST_HASH = 18335L;

    /** The signs of the axes from SELF on; the child axis has none. */
    private static final String AXIS_SIGNS = ".%#>}^~<{";

    // Everything is made once here and used again, so that no call needs new objects.
    private final State now = new State();
    private final History history = new History();
    private final Text text = new Text(TEXT_BYTES);
    private final Text writing = new Text(WRITTEN_BYTES);
    private final Query draft = new Query();
    private final Parser parser = new Parser();
    private final Rewriter rewriter = new Rewriter();
    private final Evaluator evaluator = new Evaluator();
    private final Evaluator otherEvaluator = new Evaluator();

    public TreeQueries() {
    }

    public int addNode(int parent, int name, int value)
            throws IndexOutOfBoundsException, IllegalArgumentException, IllegalStateException {
        requireNode(parent);
        requireBelow(name, NAMES);
        requireBelow(value, VALUES);
        if (now.tree.length >= MOST_NODES) {
            throw new IllegalStateException("the tree is full");
        }
        history.push(now);
        return now.tree.append(parent, name, value);
    }

    public int removeNode(int node) throws IndexOutOfBoundsException, UnsupportedOperationException {
        requireNode(node);
        if (node == 0) {
            throw new UnsupportedOperationException("the root stays");
        }
        history.push(now);
        return now.tree.cut(node);
    }

    public int moveNode(int node, int parent) throws IndexOutOfBoundsException, UnsupportedOperationException {
        requireNode(node);
        requireNode(parent);
        if (parent >= node && parent <= now.tree.lasts[node]) {
            throw new UnsupportedOperationException("the parent is the node or below it");
        }
        history.push(now);
        return now.tree.hang(node, parent);
    }

    public int setNode(int node, int name, int value) throws IndexOutOfBoundsException, IllegalArgumentException {
        requireNode(node);
        requireBelow(name, NAMES);
        requireBelow(value, VALUES);
        history.push(now);
        int previous = 10 * now.tree.names[node] + now.tree.values[node];
        now.tree.names[node] = name;
        now.tree.values[node] = value;
        return previous;
    }

    public int nodes() {
        return now.tree.length;
    }

    public int node(int node, int what) throws IndexOutOfBoundsException, IllegalArgumentException {
        requireNode(node);
        requireBelow(what, NODE_KINDS);
        return now.tree.tell(node, what);
    }

    public int axis(int node, int axis, int index) throws IndexOutOfBoundsException, IllegalArgumentException {
        requireNode(node);
        requireBelow(axis, PRECEDING + 1);
        requireNotNegative(index);
        long found = now.tree.along(axis, node);
        int length = Long.bitCount(found);
        if (index >= length) {
            return NONE;
        }
        return Tree.position(Tree.nth(found, Tree.isReverse(axis) ? length - 1 - index : index));
    }

    public int type(int value) throws IllegalArgumentException, IllegalStateException {
        requireBelow(value, 128);
        if (text.length >= TEXT_BYTES) {
            throw new IllegalStateException("the text is full");
        }
        text.put(value);
        return text.length;
    }

    public int clearText() {
        int length = text.length;
        text.length = 0;
        return length;
    }

    public int read(int query) throws IndexOutOfBoundsException {
        requirePlace(query);
        int fault = parser.faultOf(text);
        if (fault != NONE) {
            return FAULT_BASE - fault;
        }
        history.push(now);
        now.queries[query].copyFrom(parser.query);
        return now.queries[query].length;
    }

    public int written(int query, int index)
            throws IndexOutOfBoundsException, IllegalArgumentException, IllegalStateException {
        requirePlace(query);
        requireNotNegative(index);
        requireQuery(query);
        now.queries[query].writeTo(writing);
        return index < writing.length ? writing.at(index) : NONE;
    }

    public int size(int query, int what)
            throws IndexOutOfBoundsException, IllegalArgumentException, IllegalStateException {
        requirePlace(query);
        requireBelow(what, SIZE_KINDS);
        requireQuery(query);
        return measure(now.queries[query], what);
    }

    public int unite(int query, int first, int second) throws IndexOutOfBoundsException, IllegalStateException {
        requirePlace(query);
        requirePlace(first);
        requirePlace(second);
        requireQuery(first);
        requireQuery(second);
        if (now.queries[first].length + now.queries[second].length > MOST_PATHS) {
            throw new IllegalStateException("too many paths");
        }
        // The place may be one of the two that are united, so the union is made beside them.
        draft.copyFrom(now.queries[first]);
        draft.append(now.queries[second]);
        history.push(now);
        now.queries[query].copyFrom(draft);
        return now.queries[query].length;
    }

    public int drop(int query) throws IndexOutOfBoundsException {
        requirePlace(query);
        history.push(now);
        int had = now.queries[query].length > 0 ? 1 : 0;
        now.queries[query].length = 0;
        return had;
    }

    public int count(int query, int context) throws IndexOutOfBoundsException, IllegalStateException {
        requirePlace(query);
        requireNode(context);
        requireQuery(query);
        return Long.bitCount(selectedFrom(query, context));
    }

    public int selected(int query, int context, int index)
            throws IndexOutOfBoundsException, IllegalArgumentException, IllegalStateException {
        requirePlace(query);
        requireNode(context);
        requireNotNegative(index);
        requireQuery(query);
        long found = selectedFrom(query, context);
        return index < Long.bitCount(found) ? Tree.position(Tree.nth(found, index)) : NONE;
    }

    public int sum(int query, int context) throws IndexOutOfBoundsException, IllegalStateException {
        requirePlace(query);
        requireNode(context);
        requireQuery(query);
        return now.tree.totalOf(selectedFrom(query, context));
    }

    public int given(int query, int path, int step, int node)
            throws IndexOutOfBoundsException, IllegalStateException, IllegalArgumentException {
        requirePlace(query);
        requireNode(node);
        requireQuery(query);
        requireBelow(path, now.queries[query].length);
        requireBelow(step, now.queries[query].paths[path].length);
        evaluator.prepare(now.tree, now.queries[query]);
        return Long.bitCount(evaluator.givenBy(path, step, node));
    }

    public int differences(int first, int second) throws IndexOutOfBoundsException, IllegalStateException {
        requirePlace(first);
        requirePlace(second);
        requireQuery(first);
        requireQuery(second);
        evaluator.prepare(now.tree, now.queries[first]);
        otherEvaluator.prepare(now.tree, now.queries[second]);
        int different = 0;
        for (int context = 0; context < now.tree.length; context++) {
            if (evaluator.selectFrom(now.queries[first], context)
                    != otherEvaluator.selectFrom(now.queries[second], context)) {
                different++;
            }
        }
        return different;
    }

    public int rewrite(int query) throws IndexOutOfBoundsException, IllegalStateException {
        requirePlace(query);
        requireQuery(query);
        history.push(now);
        rewriter.run(now.queries[query]);
        return rewriter.total();
    }

    public int uses(int query, int rule)
            throws IndexOutOfBoundsException, IllegalArgumentException, IllegalStateException {
        requirePlace(query);
        if (rule < 1 || rule > RULES) {
            throw new IllegalArgumentException("no such rule");
        }
        requireQuery(query);
        draft.copyFrom(now.queries[query]);
        rewriter.run(draft);
        return rewriter.used[rule];
    }

    public int undo() throws IllegalStateException {
        if (history.length == 0) {
            throw new IllegalStateException("nothing is saved");
        }
        history.popTo(now);
        return history.length;
    }

    public long digest() {
        long hash = FIRST_HASH;
        hash = 31L * hash + history.length;
        hash = 31L * hash + text.length;
        hash = hashTree(hash);
        for (int place = 0; place < PLACES; place++) {
            hash = 31L * hash + (now.queries[place].length > 0 ? 1 : 0);
            if (now.queries[place].length > 0) {
                hash = hashWriting(hash, now.queries[place]);
                hash = hashSelection(hash, now.queries[place]);
                hash = hashUses(hash, now.queries[place]);
            }
        }
        return hash;
    }

    private long hashTree(long start) {
        long hash = 31L * start + now.tree.length;
        for (int node = 0; node < now.tree.length; node++) {
            for (int what = 0; what < NODE_KINDS; what++) {
                hash = 31L * hash + now.tree.tell(node, what);
            }
        }
        return hash;
    }

    private long hashWriting(long start, Query query) {
        long hash = start;
        for (int what = 0; what < SIZE_KINDS; what++) {
            hash = 31L * hash + measure(query, what);
        }
        query.writeTo(writing);
        for (int index = 0; index < writing.length; index++) {
            hash = 31L * hash + writing.at(index);
        }
        return hash;
    }

    private long hashSelection(long start, Query query) {
        long hash = start;
        evaluator.prepare(now.tree, query);
        for (int context = 0; context < now.tree.length; context++) {
            long found = evaluator.selectFrom(query, context);
            hash = 31L * hash + Long.bitCount(found);
            hash = 31L * hash + now.tree.totalOf(found);
        }
        return hash;
    }

    private long hashUses(long start, Query query) {
        long hash = start;
        draft.copyFrom(query);
        rewriter.run(draft);
        for (int rule = 1; rule <= RULES; rule++) {
            hash = 31L * hash + rewriter.used[rule];
        }
        return hash;
    }

    private long selectedFrom(int place, int context) {
        evaluator.prepare(now.tree, now.queries[place]);
        return evaluator.selectFrom(now.queries[place], context);
    }

    private int measure(Query query, int what) {
        switch (what) {
            case 0:
                return query.length;
            case 1:
                return query.stepTotal();
            case 2:
                return query.predicateTotal();
            case 3:
                return query.conditionTotal();
            case 4:
                return query.isPositional() ? 1 : 0;
            default:
                query.writeTo(writing);
                return writing.length;
        }
    }

    private void requireNode(int node) {
        if (node < 0 || node >= now.tree.length) {
            throw new IndexOutOfBoundsException("no such node");
        }
    }

    private void requirePlace(int place) {
        if (place < 0 || place >= PLACES) {
            throw new IndexOutOfBoundsException("no such place");
        }
    }

    private void requireQuery(int place) {
        if (now.queries[place].length == 0) {
            throw new IllegalStateException("no query at this place");
        }
    }

    private void requireBelow(int value, int bound) {
        if (value < 0 || value >= bound) {
            throw new IllegalArgumentException("out of range");
        }
    }

    private void requireNotNegative(int index) {
        if (index < 0) {
            throw new IllegalArgumentException("the index is negative");
        }
    }

    /** A row of bytes: the typed text, or a query as it is written. */
    private static final class Text {
        private final byte[] bytes;
        private int length = 0;

        Text(int capacity) {
            bytes = new byte[capacity > 0 ? capacity : 0];
        }

        void put(int sign) {
            if (length >= 0 && length < bytes.length) {
                bytes[length] = (byte) sign;
                length++;
            }
        }

        int at(int index) {
            return index >= 0 && index < bytes.length ? bytes[index] : NONE;
        }

        void putTest(int axis, int test) {
            if (axis >= SELF && axis <= PRECEDING) {
                put(AXIS_SIGNS.charAt(axis - SELF));
            }
            put(test == ANY ? '*' : 'a' + test);
        }
    }

    /**
     * The document tree. Its rows are indexed by the numbers of the nodes. A set of nodes is a long, where the bit n
     * is the node n, so that the order of the bits is the document order.
     */
    private static final class Tree {
        private int length = 1;
        private final int[] names = new int[MOST_NODES];
        private final int[] values = new int[MOST_NODES];
        private final int[] parents = new int[MOST_NODES];
        // The next three follow from the parents; survey() tells them anew after each change.
        private final int[] lasts = new int[MOST_NODES];
        private final long[] children = new long[MOST_NODES];
        private final long[] ancestors = new long[MOST_NODES];
        // Work rows of arrange().
        private final int[] order = new int[MOST_NODES];
        private final int[] numbers = new int[MOST_NODES];
        private final int[] moved = new int[MOST_NODES];

        Tree() {
            parents[0] = NONE;
        }

        void copyFrom(Tree other) {
            length = other.length;
            System.arraycopy(other.names, 0, names, 0, MOST_NODES);
            System.arraycopy(other.values, 0, values, 0, MOST_NODES);
            System.arraycopy(other.parents, 0, parents, 0, MOST_NODES);
            System.arraycopy(other.lasts, 0, lasts, 0, MOST_NODES);
            System.arraycopy(other.children, 0, children, 0, MOST_NODES);
            System.arraycopy(other.ancestors, 0, ancestors, 0, MOST_NODES);
        }

        /** Adds a node behind the last child of another; tells its number. */
        int append(int parent, int name, int value) {
            int added = length;
            if (added >= MOST_NODES) {
                return NONE;
            }
            names[added] = name;
            values[added] = value;
            parents[added] = parent;
            length++;
            arrange(added, added + 1, lasts[parent]);
            return numbers[added];
        }

        /** Removes a node with all below it; tells how many are left. */
        int cut(int node) {
            length = arrange(node, lasts[node] + 1, NONE);
            return length;
        }

        /** Moves a node with all below it behind the last child of another; tells its number then. */
        int hang(int node, int parent) {
            parents[node] = parent;
            arrange(node, lasts[node] + 1, lasts[parent]);
            return numbers[node];
        }

        /**
         * Puts the nodes from first to end - 1 directly behind another node: nowhere if it is NONE, and where they are
         * if it is one of them, as for a last child that is moved to its own parent.
         */
        private int arrange(int first, int end, int behind) {
            int laid = 0;
            for (int node = 0; node < length; node++) {
                if (node < first || node >= end) {
                    laid = lay(node, laid);
                }
                if (node == behind) {
                    for (int block = first; block < end; block++) {
                        laid = lay(block, laid);
                    }
                }
            }
            relay(names, laid);
            relay(values, laid);
            relay(parents, laid);
            for (int node = 1; node < laid; node++) {
                int parent = parents[node];
                parents[node] = parent >= 0 && parent < MOST_NODES ? numbers[parent] : NONE;
            }
            survey(laid);
            return laid;
        }

        private int lay(int node, int laid) {
            if (laid < 0 || laid >= MOST_NODES || node < 0 || node >= MOST_NODES) {
                return laid;
            }
            order[laid] = node;
            numbers[node] = laid;
            return laid + 1;
        }

        private void relay(int[] row, int laid) {
            for (int node = 0; node < laid; node++) {
                moved[node] = row[order[node]];
            }
            System.arraycopy(moved, 0, row, 0, laid);
        }

        private void survey(int laid) {
            for (int node = 0; node < laid; node++) {
                lasts[node] = node;
                children[node] = 0L;
                int parent = parents[node];
                if (parent >= 0 && parent < node) {
                    children[parent] |= 1L << node;
                    ancestors[node] = ancestors[parent] | 1L << parent;
                }
            }
            for (int node = laid - 1; node > 0; node--) {
                int parent = parents[node];
                if (parent >= 0 && parent < node) {
                    lasts[parent] = Math.max(lasts[parent], lasts[node]);
                }
            }
        }

        int tell(int node, int what) {
            switch (what) {
                case 0:
                    return names[node];
                case 1:
                    return values[node];
                case 2:
                    return parents[node];
                case 3:
                    return Long.bitCount(children[node]);
                case 4:
                    return lasts[node] - node;
                default:
                    return Long.bitCount(ancestors[node]);
            }
        }

        long along(int axis, int node) {
            switch (axis) {
                case CHILD:
                    return children[node];
                case SELF:
                    return 1L << node;
                case DESCENDANT:
                    return range(node + 1, lasts[node] + 1);
                case DESCENDANT_OR_SELF:
                    return range(node, lasts[node] + 1);
                case FOLLOWING_SIBLING:
                    return siblings(node) & range(node + 1, length);
                case FOLLOWING:
                    return range(lasts[node] + 1, length);
                case PARENT:
                    return parents[node] >= 0 ? 1L << parents[node] : 0L;
                case ANCESTOR:
                    return ancestors[node];
                case PRECEDING_SIBLING:
                    return siblings(node) & range(0, node);
                default:
                    return range(0, node) & ~ancestors[node];
            }
        }

        /** The children of the parent, the node itself among them. */
        private long siblings(int node) {
            int parent = parents[node];
            return parent >= 0 && parent < MOST_NODES ? children[parent] : 0L;
        }

        /** Whether an axis gives its nodes in reverse document order. */
        static boolean isReverse(int axis) {
            return axis == ANCESTOR || axis == PRECEDING_SIBLING || axis == PRECEDING;
        }

        long passing(int test) {
            if (test == ANY) {
                return range(0, length);
            }
            long passing = 0L;
            for (int node = 0; node < length; node++) {
                if (names[node] == test) {
                    passing |= 1L << node;
                }
            }
            return passing;
        }

        long valued(int value) {
            long valued = 0L;
            for (int node = 0; node < length; node++) {
                if (values[node] == value) {
                    valued |= 1L << node;
                }
            }
            return valued;
        }

        /** The nodes from which an axis leads to one of a set. */
        long leadingTo(long targets, int axis) {
            long leading = 0L;
            for (int node = 0; node < length; node++) {
                if ((along(axis, node) & targets) != 0L) {
                    leading |= 1L << node;
                }
            }
            return leading;
        }

        int totalOf(long set) {
            int total = 0;
            for (int node = 0; node < length; node++) {
                if ((set >> node & 1L) != 0L) {
                    total += values[node];
                }
            }
            return total;
        }

        /** The bits from one number to the one before another. */
        static long range(int from, int end) {
            return end > from ? (1L << end) - (1L << from) : 0L;
        }

        /** The set of one bit alone, counted from 0 at the lowest; empty if there are not so many. */
        static long nth(long set, int index) {
            long left = set;
            for (int passed = 0; passed < index; passed++) {
                left &= left - 1;
            }
            return left & -left;
        }

        /** The number of the lowest bit; 64 if there is none. */
        static int position(long set) {
            return Long.bitCount((set & -set) - 1);
        }
    }

    /**
     * A condition as one number, so that a step holds its conditions in a row and alike means equal.
     * Bits 0 to 2 tell the kind, bit 3 the opposite, bits 4 and 5 the number of short steps; from bit 6 on stand
     * the digit, or the short steps with 8 bits each.
     */
    private static final class Condition {
        static final int NO_CONDITION = 0;
        static final int POSITION = 1, LAST = 2, VALUE = 3, EXISTS = 4;
        static final int OPPOSITE = 8;
        private static final int KIND = 7;
        private static final int ONE_STEP = 16;
        private static final int DETAILS = 6;
        private static final int STEP_BITS = 8;
        /** The condition ?.* which holds for every node. */
        static final int ALWAYS = EXISTS | ONE_STEP | (SELF | ANY << 4) << DETAILS;

        static int withDigit(int kind, int digit) {
            return kind | digit << DETAILS;
        }

        static int withStep(int condition, int axis, int test) {
            return (condition | (axis | test << 4) << DETAILS + STEP_BITS * stepsOf(condition)) + ONE_STEP;
        }

        static int kindOf(int condition) {
            return condition & KIND;
        }

        static boolean isOpposite(int condition) {
            return (condition & OPPOSITE) != 0;
        }

        static boolean isPositional(int condition) {
            int kind = condition & KIND;
            return kind == POSITION || kind == LAST;
        }

        static int digitOf(int condition) {
            return condition >> DETAILS & 15;
        }

        static int stepsOf(int condition) {
            return condition >> 4 & 3;
        }

        static int axisOf(int condition, int step) {
            return condition >> DETAILS + STEP_BITS * step & 15;
        }

        static int testOf(int condition, int step) {
            return condition >> DETAILS + STEP_BITS * step + 4 & 15;
        }

        static void writeTo(Text out, int condition) {
            int kind = kindOf(condition);
            if (isOpposite(condition)) {
                out.put('-');
            }
            if (kind != POSITION) {
                out.put(kind == LAST ? '$' : kind == VALUE ? '=' : '?');
            }
            if (kind == POSITION || kind == VALUE) {
                out.put('0' + digitOf(condition));
            }
            for (int step = 0; step < stepsOf(condition); step++) {
                if (step > 0) {
                    out.put('/');
                }
                out.putTest(axisOf(condition, step), testOf(condition, step));
            }
        }
    }

    /**
     * A step of a path. Its conditions stand in slots: nine for each predicate, three of these for each alternative.
     * Used slots of an alternative, and used alternatives of a predicate, come first; unused ones are NO_CONDITION.
     */
    private static final class Step {
        private int axis = CHILD;
        private int test = ANY;
        private int predicates = 0;
        private final int[] slots = new int[STEP_SLOTS];

        void begin(int newAxis, int newTest) {
            axis = newAxis;
            test = newTest;
            predicates = 0;
            Arrays.fill(slots, Condition.NO_CONDITION);
        }

        void copyFrom(Step other) {
            axis = other.axis;
            test = other.test;
            predicates = other.predicates;
            System.arraycopy(other.slots, 0, slots, 0, STEP_SLOTS);
        }

        boolean isAny(int wantedAxis) {
            return axis == wantedAxis && test == ANY;
        }

        boolean isPlainAny(int wantedAxis) {
            return predicates == 0 && isAny(wantedAxis);
        }

        boolean isPositional() {
            for (int slot = 0; slot < STEP_SLOTS; slot++) {
                if (Condition.isPositional(slots[slot])) {
                    return true;
                }
            }
            return false;
        }

        int conditionTotal() {
            int total = 0;
            for (int slot = 0; slot < STEP_SLOTS; slot++) {
                if (slots[slot] != Condition.NO_CONDITION) {
                    total++;
                }
            }
            return total;
        }

        boolean isLike(Step other) {
            if (axis != other.axis || test != other.test || predicates != other.predicates) {
                return false;
            }
            for (int slot = 0; slot < STEP_SLOTS; slot++) {
                if (slots[slot] != other.slots[slot]) {
                    return false;
                }
            }
            return true;
        }

        void setCondition(int slot, int condition) {
            if (slot >= 0 && slot < STEP_SLOTS) {
                slots[slot] = condition;
            }
        }

        int conditionAt(int slot) {
            return slot >= 0 && slot < STEP_SLOTS ? slots[slot] : Condition.NO_CONDITION;
        }

        /** Opens a predicate; tells its first slot. */
        int openPredicate() {
            int first = predicates * PREDICATE_SLOTS;
            predicates++;
            return first;
        }

        void appendPredicatesOf(Step other) {
            if (predicates + other.predicates <= MOST_PREDICATES) {
                System.arraycopy(other.slots, 0, slots, predicates * PREDICATE_SLOTS,
                        other.predicates * PREDICATE_SLOTS);
                predicates += other.predicates;
            }
        }

        private void removePredicate(int predicate) {
            int first = predicate * PREDICATE_SLOTS;
            closeGap(first, PREDICATE_SLOTS, STEP_SLOTS);
            predicates--;
        }

        /** Moves the slots behind a gap down to it, as far as an end, and empties those that become free. */
        private void closeGap(int first, int width, int end) {
            for (int slot = first; slot < end; slot++) {
                slots[slot] = slot + width < end ? slots[slot + width] : Condition.NO_CONDITION;
            }
        }

        /** Rule 6: whether a condition ?.* beside another one was there and is removed. */
        boolean dropIdleCondition() {
            for (int slot = 0; slot < STEP_SLOTS; slot++) {
                int first = slot - slot % ALTERNATIVE_SLOTS;
                if (slots[slot] == Condition.ALWAYS && slots[first + 1] != Condition.NO_CONDITION) {
                    closeGap(slot, 1, first + ALTERNATIVE_SLOTS);
                    return true;
                }
            }
            return false;
        }

        /** Rule 7: whether a predicate with an alternative of ?.* alone was there and is removed. */
        boolean dropIdlePredicate() {
            for (int first = 0; first < STEP_SLOTS; first += ALTERNATIVE_SLOTS) {
                if (slots[first] == Condition.ALWAYS && slots[first + 1] == Condition.NO_CONDITION) {
                    removePredicate(first / PREDICATE_SLOTS);
                    return true;
                }
            }
            return false;
        }

        /** Rule 8: whether a predicate like the one before it was there and is removed. */
        boolean dropRepeatedPredicate() {
            for (int second = 1; second < predicates; second++) {
                if (repeatsOneBefore(second)) {
                    removePredicate(second);
                    return true;
                }
            }
            return false;
        }

        private boolean repeatsOneBefore(int predicate) {
            int first = predicate * PREDICATE_SLOTS;
            for (int slot = first; slot < first + PREDICATE_SLOTS && slot < STEP_SLOTS; slot++) {
                if (slots[slot] != conditionAt(slot - PREDICATE_SLOTS) || Condition.isPositional(slots[slot])) {
                    return false;
                }
            }
            return true;
        }

        void writeTo(Text out) {
            out.putTest(axis, test);
            for (int slot = 0; slot < predicates * PREDICATE_SLOTS && slot < STEP_SLOTS; slot++) {
                int place = slot % PREDICATE_SLOTS;
                if (place == 0) {
                    out.put('[');
                }
                if (slots[slot] != Condition.NO_CONDITION) {
                    if (place > 0) {
                        out.put(place % ALTERNATIVE_SLOTS == 0 ? '+' : ',');
                    }
                    Condition.writeTo(out, slots[slot]);
                }
                if (place == PREDICATE_SLOTS - 1) {
                    out.put(']');
                }
            }
        }
    }

    /** A path of a query. The steps behind its length are free. */
    private static final class Path {
        private boolean absolute = false;
        private int length = 0;
        private final Step[] steps = new Step[MOST_STEPS];

        Path() {
            for (int step = 0; step < MOST_STEPS; step++) {
                steps[step] = new Step();
            }
        }

        void begin() {
            absolute = false;
            length = 0;
        }

        void copyFrom(Path other) {
            absolute = other.absolute;
            length = other.length;
            for (int step = 0; step < length; step++) {
                steps[step].copyFrom(other.steps[step]);
            }
        }

        boolean isFull() {
            return length >= MOST_STEPS;
        }

        /** The caller looks before whether the path is full. */
        Step addStep(int axis, int test) {
            Step added = steps[Math.min(length, MOST_STEPS - 1)];
            added.begin(axis, test);
            length = Math.min(length + 1, MOST_STEPS);
            return added;
        }

        void removeStep(int step) {
            if (step < 0 || step >= length || length > MOST_STEPS) {
                return;
            }
            Step removed = steps[step];
            for (int later = step; later + 1 < length; later++) {
                steps[later] = steps[later + 1];
            }
            steps[length - 1] = removed;
            length--;
        }

        boolean isLike(Path other) {
            if (absolute != other.absolute || length != other.length) {
                return false;
            }
            for (int step = 0; step < length; step++) {
                if (!steps[step].isLike(other.steps[step])) {
                    return false;
                }
            }
            return true;
        }
    }

    /** What stands at a place: a query, or nothing if it has no paths. The paths behind its length are free. */
    private static final class Query {
        private int length = 0;
        private final Path[] paths = new Path[MOST_PATHS];

        Query() {
            for (int path = 0; path < MOST_PATHS; path++) {
                paths[path] = new Path();
            }
        }

        void copyFrom(Query other) {
            length = 0;
            append(other);
        }

        void append(Query other) {
            for (int path = 0; path < other.length && length < MOST_PATHS; path++) {
                paths[length].copyFrom(other.paths[path]);
                length++;
            }
        }

        boolean isFull() {
            return length >= MOST_PATHS;
        }

        /** The caller looks before whether the query is full. */
        Path addPath() {
            Path added = paths[Math.min(length, MOST_PATHS - 1)];
            added.begin();
            length = Math.min(length + 1, MOST_PATHS);
            return added;
        }

        void removePath(int path) {
            if (path < 0 || path >= length || length > MOST_PATHS) {
                return;
            }
            Path removed = paths[path];
            for (int later = path; later + 1 < length; later++) {
                paths[later] = paths[later + 1];
            }
            paths[length - 1] = removed;
            length--;
        }

        boolean isRepeated(int path) {
            for (int earlier = 0; earlier < path; earlier++) {
                if (paths[earlier].isLike(paths[path])) {
                    return true;
                }
            }
            return false;
        }

        int stepTotal() {
            int total = 0;
            for (int path = 0; path < length; path++) {
                total += paths[path].length;
            }
            return total;
        }

        int predicateTotal() {
            int total = 0;
            for (int path = 0; path < length; path++) {
                for (int step = 0; step < paths[path].length; step++) {
                    total += paths[path].steps[step].predicates;
                }
            }
            return total;
        }

        int conditionTotal() {
            int total = 0;
            for (int path = 0; path < length; path++) {
                for (int step = 0; step < paths[path].length; step++) {
                    total += paths[path].steps[step].conditionTotal();
                }
            }
            return total;
        }

        boolean isPositional() {
            for (int path = 0; path < length; path++) {
                for (int step = 0; step < paths[path].length; step++) {
                    if (paths[path].steps[step].isPositional()) {
                        return true;
                    }
                }
            }
            return false;
        }

        void writeTo(Text out) {
            out.length = 0;
            for (int path = 0; path < length; path++) {
                if (path > 0) {
                    out.put('|');
                }
                for (int step = 0; step < paths[path].length; step++) {
                    if (step > 0 || paths[path].absolute) {
                        out.put('/');
                    }
                    paths[path].steps[step].writeTo(out);
                }
            }
        }
    }

    /** All that undo() restores. */
    private static final class State {
        private final Tree tree = new Tree();
        private final Query[] queries = new Query[PLACES];

        State() {
            for (int place = 0; place < PLACES; place++) {
                queries[place] = new Query();
            }
        }

        void copyFrom(State other) {
            tree.copyFrom(other.tree);
            for (int place = 0; place < PLACES; place++) {
                queries[place].copyFrom(other.queries[place]);
            }
        }
    }

    /** The undo stack, in a ring: a fifth state takes the place of the oldest one. */
    private static final class History {
        private final State[] saved = new State[SAVED_STATES];
        private int next = 0;
        private int length = 0;

        History() {
            for (int place = 0; place < SAVED_STATES; place++) {
                saved[place] = new State();
            }
        }

        void push(State state) {
            saved[next].copyFrom(state);
            next = (next + 1) % SAVED_STATES;
            length = Math.min(length + 1, SAVED_STATES);
        }

        /** The caller looks before whether a state is saved. */
        void popTo(State state) {
            next = (next + SAVED_STATES - 1) % SAVED_STATES;
            length--;
            state.copyFrom(saved[next]);
        }
    }

    /** Reads a text, byte by byte, into a query. */
    private static final class Parser {
        // What may stand next.
        private static final int PATH_START = 0, AFTER_SLASH = 1, STEP_START = 2, STEP_TEST = 3, STEP_END = 4,
                CONDITION_START = 5, ATOM = 6, VALUE_DIGIT = 7, SHORT_START = 8, SHORT_TEST = 9, SHORT_END = 10,
                CONDITION_END = 11;

        private final Query query = new Query();
        private Path path = query.paths[0];
        private Step step = path.steps[0];
        private int state = PATH_START;
        private int axis = CHILD;
        private int slot = 0;
        private int opposite = 0;

        /** The fault of a text; NONE if it is a query, which then stands in this parser. */
        int faultOf(Text text) {
            query.length = 0;
            path = query.addPath();
            state = PATH_START;
            for (int index = 0; index < text.length; index++) {
                if (!accepts(text.at(index))) {
                    return index;
                }
            }
            return state == STEP_END ? NONE : text.length;
        }

        private boolean accepts(int sign) {
            switch (state) {
                case PATH_START:
                    return sign == '/' ? acceptsFirstSlash() : acceptsStep(sign);
                case AFTER_SLASH:
                    return sign == '/' ? acceptsSecondSlash() : acceptsStep(sign);
                case STEP_START:
                    return acceptsStep(sign);
                case STEP_TEST:
                    return acceptsTest(sign);
                case STEP_END:
                    return acceptsStepEnd(sign);
                case CONDITION_START:
                    return acceptsCondition(sign);
                case ATOM:
                    return acceptsAtom(sign);
                case VALUE_DIGIT:
                    return acceptsDigit(sign, '0', Condition.VALUE);
                case SHORT_START:
                    return acceptsShortStep(sign);
                case SHORT_TEST:
                    return acceptsShortTest(sign);
                case SHORT_END:
                    return sign == '/' ? acceptsShortSlash() : acceptsConditionEnd(sign);
                default:
                    return acceptsConditionEnd(sign);
            }
        }

        private boolean acceptsFirstSlash() {
            path.absolute = true;
            state = AFTER_SLASH;
            return true;
        }

        private boolean acceptsSecondSlash() {
            if (path.isFull()) {
                return false;
            }
            path.addStep(DESCENDANT_OR_SELF, ANY);
            state = STEP_START;
            return true;
        }

        private boolean acceptsStep(int sign) {
            if (path.isFull()) {
                return false;
            }
            axis = axisOf(sign);
            if (axis == CHILD) {
                return acceptsTest(sign);
            }
            state = STEP_TEST;
            return true;
        }

        private boolean acceptsTest(int sign) {
            int test = testOf(sign);
            if (test == NONE) {
                return false;
            }
            step = path.addStep(axis, test);
            state = STEP_END;
            return true;
        }

        private boolean acceptsStepEnd(int sign) {
            if (sign == '/') {
                state = AFTER_SLASH;
                return true;
            }
            if (sign == '[' && step.predicates < MOST_PREDICATES) {
                slot = step.openPredicate();
                state = CONDITION_START;
                return true;
            }
            if (sign == '|' && !query.isFull()) {
                path = query.addPath();
                state = PATH_START;
                return true;
            }
            return false;
        }

        private boolean acceptsCondition(int sign) {
            opposite = sign == '-' ? Condition.OPPOSITE : 0;
            if (sign != '-') {
                return acceptsAtom(sign);
            }
            state = ATOM;
            return true;
        }

        private boolean acceptsAtom(int sign) {
            switch (sign) {
                case '$':
                    step.setCondition(slot, Condition.LAST | opposite);
                    state = CONDITION_END;
                    return true;
                case '=':
                    state = VALUE_DIGIT;
                    return true;
                case '?':
                    step.setCondition(slot, Condition.EXISTS | opposite);
                    state = SHORT_START;
                    return true;
                default:
                    return acceptsDigit(sign, '1', Condition.POSITION);
            }
        }

        private boolean acceptsDigit(int sign, int lowest, int kind) {
            if (sign < lowest || sign > '9') {
                return false;
            }
            step.setCondition(slot, Condition.withDigit(kind, sign - '0') | opposite);
            state = CONDITION_END;
            return true;
        }

        private boolean acceptsShortStep(int sign) {
            axis = axisOf(sign);
            if (axis == CHILD) {
                return acceptsShortTest(sign);
            }
            state = SHORT_TEST;
            return true;
        }

        private boolean acceptsShortTest(int sign) {
            int test = testOf(sign);
            if (test == NONE) {
                return false;
            }
            step.setCondition(slot, Condition.withStep(step.conditionAt(slot), axis, test));
            state = SHORT_END;
            return true;
        }

        private boolean acceptsShortSlash() {
            if (Condition.stepsOf(step.conditionAt(slot)) >= MOST_SHORT_STEPS) {
                return false;
            }
            state = SHORT_START;
            return true;
        }

        private boolean acceptsConditionEnd(int sign) {
            int place = slot % PREDICATE_SLOTS;
            int condition = place % ALTERNATIVE_SLOTS;
            if (sign == ']') {
                state = STEP_END;
                return true;
            }
            if (sign == ',' && condition < ALTERNATIVE_SLOTS - 1) {
                slot++;
                state = CONDITION_START;
                return true;
            }
            if (sign == '+' && place < PREDICATE_SLOTS - ALTERNATIVE_SLOTS) {
                slot += ALTERNATIVE_SLOTS - condition;
                state = CONDITION_START;
                return true;
            }
            return false;
        }

        /** The axis that a sign stands for; CHILD if it is none. */
        private static int axisOf(int sign) {
            return AXIS_SIGNS.indexOf((char) sign) + SELF;
        }

        private static int testOf(int sign) {
            if (sign == '*') {
                return ANY;
            }
            return sign >= 'a' && sign < 'a' + NAMES ? sign - 'a' : NONE;
        }
    }

    /** Rewrites queries, and counts how often each rule was used in the last run. */
    private static final class Rewriter {
        // Each use takes away a step, a predicate or a condition, and a path never has so many.
        private static final int MOST_USES = 1000;

        private final int[] used = new int[RULES + 1];

        void run(Query query) {
            Arrays.fill(used, 0);
            for (int path = 0; path < query.length; path++) {
                boolean shorter = true;
                for (int use = 0; use < MOST_USES && shorter; use++) {
                    int rule = useFirstRule(query.paths[path]);
                    used[rule]++;
                    shorter = rule > 0;
                }
            }
            // From behind, so that a removed path changes no number that is still to come.
            for (int path = query.length - 1; path > 0; path--) {
                if (query.isRepeated(path)) {
                    query.removePath(path);
                    used[9]++;
                }
            }
        }

        int total() {
            int total = 0;
            for (int rule = 1; rule <= RULES; rule++) {
                total += used[rule];
            }
            return total;
        }

        /** The rule that was used; 0 if none can be. */
        private int useFirstRule(Path path) {
            if (dropIdleStep(path)) {
                return 1;
            }
            if (joinDescentToChild(path)) {
                return 2;
            }
            if (joinDescents(path)) {
                return 3;
            }
            if (turnBackToTest(path)) {
                return 4;
            }
            if (joinPredicates(path)) {
                return 5;
            }
            return useFirstPredicateRule(path);
        }

        private int useFirstPredicateRule(Path path) {
            for (int step = 0; step < path.length; step++) {
                if (path.steps[step].dropIdleCondition()) {
                    return 6;
                }
            }
            for (int step = 0; step < path.length; step++) {
                if (path.steps[step].dropIdlePredicate()) {
                    return 7;
                }
            }
            for (int step = 0; step < path.length; step++) {
                if (path.steps[step].dropRepeatedPredicate()) {
                    return 8;
                }
            }
            return 0;
        }

        private boolean dropIdleStep(Path path) {
            for (int step = 0; step < path.length && path.length > 1; step++) {
                if (path.steps[step].isPlainAny(SELF)) {
                    path.removeStep(step);
                    return true;
                }
            }
            return false;
        }

        private boolean joinDescentToChild(Path path) {
            for (int second = 1; second < path.length; second++) {
                Step next = path.steps[second];
                if (path.steps[second - 1].isPlainAny(DESCENDANT_OR_SELF) && next.axis == CHILD
                        && !next.isPositional()) {
                    next.axis = DESCENDANT;
                    path.removeStep(second - 1);
                    return true;
                }
            }
            return false;
        }

        private boolean joinDescents(Path path) {
            for (int second = 1; second < path.length; second++) {
                Step next = path.steps[second];
                boolean descends = next.axis == DESCENDANT || next.axis == DESCENDANT_OR_SELF;
                if (path.steps[second - 1].isPlainAny(DESCENDANT_OR_SELF) && descends && !next.isPositional()) {
                    path.removeStep(second - 1);
                    return true;
                }
            }
            return false;
        }

        private boolean turnBackToTest(Path path) {
            for (int second = 1; second < path.length; second++) {
                Step down = path.steps[second - 1];
                if (down.predicates == 0 && down.axis == CHILD && path.steps[second].isPlainAny(PARENT)) {
                    int test = down.test;
                    down.begin(SELF, ANY);
                    down.setCondition(down.openPredicate(), Condition.withStep(Condition.EXISTS, CHILD, test));
                    path.removeStep(second);
                    return true;
                }
            }
            return false;
        }

        private boolean joinPredicates(Path path) {
            for (int second = 1; second < path.length; second++) {
                Step before = path.steps[second - 1];
                Step joined = path.steps[second];
                if (joined.isAny(SELF) && !joined.isPositional()
                        && before.predicates + joined.predicates <= MOST_PREDICATES) {
                    before.appendPredicatesOf(joined);
                    path.removeStep(second);
                    return true;
                }
            }
            return false;
        }
    }

    /** Evaluates one query at a time. */
    private static final class Evaluator {
        /** For each step of each path, and each node, what the step gives for it. */
        private final long[] gifts = new long[MOST_PATHS * MOST_STEPS * MOST_NODES];
        /** For each slot of the step at hand, the nodes whose value or short path agrees. */
        private final long[] agreeing = new long[STEP_SLOTS];

        /** To be called before the next two, and again after any change. */
        void prepare(Tree tree, Query query) {
            for (int path = 0; path < query.length; path++) {
                for (int step = 0; step < query.paths[path].length; step++) {
                    prepareStep(tree, query.paths[path].steps[step], rowOf(path, step));
                }
            }
        }

        long givenBy(int path, int step, int node) {
            return giftAt(rowOf(path, step) + node);
        }

        long selectFrom(Query query, int context) {
            long selected = 0L;
            for (int path = 0; path < query.length; path++) {
                long reached = query.paths[path].absolute ? 1L : 1L << context;
                for (int step = 0; step < query.paths[path].length; step++) {
                    reached = follow(reached, rowOf(path, step));
                }
                selected |= reached;
            }
            return selected;
        }

        private static int rowOf(int path, int step) {
            return (path * MOST_STEPS + step) * MOST_NODES;
        }

        private long giftAt(int index) {
            return index >= 0 && index < gifts.length ? gifts[index] : 0L;
        }

        private long follow(long from, int row) {
            long reached = 0L;
            long left = from;
            for (int count = Long.bitCount(from); count > 0; count--) {
                reached |= giftAt(row + Tree.position(left));
                left &= left - 1;
            }
            return reached;
        }

        private void prepareStep(Tree tree, Step step, int row) {
            for (int slot = 0; slot < step.predicates * PREDICATE_SLOTS && slot < STEP_SLOTS; slot++) {
                agreeing[slot] = nodesFor(tree, step.slots[slot]);
            }
            long passing = tree.passing(step.test);
            for (int node = 0; node < tree.length && row + node < gifts.length; node++) {
                long left = tree.along(step.axis, node) & passing;
                for (int predicate = 0; predicate < step.predicates; predicate++) {
                    left = keep(step, predicate, left);
                }
                gifts[row + node] = left;
            }
        }

        /** The nodes for which a condition without a position holds, were it not an opposite. */
        private static long nodesFor(Tree tree, int condition) {
            int kind = Condition.kindOf(condition);
            if (kind == Condition.VALUE) {
                return tree.valued(Condition.digitOf(condition));
            }
            if (kind != Condition.EXISTS) {
                return 0L;
            }
            // From the end of the short path to its begin, one look at the tree is enough for all nodes.
            long leading = tree.passing(ANY);
            for (int step = Condition.stepsOf(condition) - 1; step >= 0; step--) {
                long targets = leading & tree.passing(Condition.testOf(condition, step));
                leading = tree.leadingTo(targets, Condition.axisOf(condition, step));
            }
            return leading;
        }

        private long keep(Step step, int predicate, long nodes) {
            long kept = 0L;
            int end = (predicate + 1) * PREDICATE_SLOTS;
            for (int first = predicate * PREDICATE_SLOTS; first < end; first += ALTERNATIVE_SLOTS) {
                if (step.conditionAt(first) != Condition.NO_CONDITION) {
                    long agreed = nodes;
                    for (int slot = first; slot < first + ALTERNATIVE_SLOTS; slot++) {
                        agreed &= holding(step, slot, nodes);
                    }
                    kept |= agreed;
                }
            }
            return kept;
        }

        /** The nodes of a set for which the condition in a slot holds; all for an empty slot. */
        private long holding(Step step, int slot, long nodes) {
            int condition = step.conditionAt(slot);
            if (condition == Condition.NO_CONDITION || slot < 0 || slot >= STEP_SLOTS) {
                return nodes;
            }
            long holding = agreeing[slot];
            if (Condition.isPositional(condition)) {
                holding = placed(condition, nodes, Tree.isReverse(step.axis));
            }
            return Condition.isOpposite(condition) ? nodes & ~holding : nodes & holding;
        }

        private static long placed(int condition, long nodes, boolean reverse) {
            int total = Long.bitCount(nodes);
            int number = Condition.kindOf(condition) == Condition.LAST ? total : Condition.digitOf(condition);
            if (number < 1 || number > total) {
                return 0L;
            }
            return Tree.nth(nodes, reverse ? total - number : number - 1);
        }
    }
}
