import java.lang.management.ManagementFactory;

/** All calls of a run live in one room: a new object is small, and calls that answer make no objects at all. */
public final class RoomTest {
    private static final int CALLS = 500;
    /** 600,000 objects and 7.3 million elements of 8 bytes are far more than this for 512 calls. */
    private static final long MOST_NEW = 1_000_000;
    private static final long MOST_CALLS = 200_000;

    private static final String HEAVY = "%*[?%a/%b/~*,-=2,$+?{*/}*,-1+-?^a]//*[?>a+=1][?<a]/#*[1+-$]//.*/a/^*";

    private static int wrong = 0;

    public static void main(String[] args) {
        if (!(ManagementFactory.getThreadMXBean() instanceof com.sun.management.ThreadMXBean)) {
            System.out.println("this machine does not count its room");
            return;
        }
        com.sun.management.ThreadMXBean threads = (com.sun.management.ThreadMXBean) ManagementFactory.getThreadMXBean();
        TreeQueries x = new TreeQueries();
        long before = threads.getCurrentThreadAllocatedBytes();
        x = new TreeQueries();
        atMost("a new object", threads.getCurrentThreadAllocatedBytes() - before, MOST_NEW);
        fill(x);
        before = threads.getCurrentThreadAllocatedBytes();
        for (int call = 0; call < CALLS; call++) {
            oneOfAll(x, call);
        }
        atMost(CALLS + " calls", threads.getCurrentThreadAllocatedBytes() - before, MOST_CALLS);
        System.out.println(wrong == 0 ? "the room is enough" : "too much room is used");
        if (wrong != 0) {
            System.exit(1);
        }
    }

    private static void atMost(String what, long bytes, long most) {
        if (bytes > most) {
            wrong++;
            System.out.println(what + " takes " + bytes + " bytes, due are at most " + most);
        }
    }

    private static void fill(TreeQueries x) {
        for (int i = 0; i < 38; i++) {
            x.addNode(i / 2, i % 3, i % 4);
        }
        for (int i = 0; i < HEAVY.length(); i++) {
            x.type(HEAVY.charAt(i));
        }
        if (x.read(0) != 1) {
            wrong++;
            System.out.println("the heavy query has a fault: " + x.read(0));
            return;
        }
        x.unite(1, 0, 0);
        x.unite(2, 1, 1);
        x.unite(3, 1, 1);
    }

    private static void oneOfAll(TreeQueries x, int call) {
        switch (call % 10) {
            case 0: x.read(0); break;
            case 1: x.unite(1, 0, 0); break;
            case 2: x.rewrite(1); break;
            case 3: x.addNode(call % 30, 1, 1); break;
            case 4: x.removeNode(x.nodes() - 1); break;
            case 5: x.moveNode(x.nodes() - 1, call % 20); break;
            case 6: x.differences(2, 1); break;
            case 7: x.written(2, 7); break;
            case 8: x.undo(); break;
            default: x.digest();
        }
    }
}
