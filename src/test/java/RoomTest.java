import com.sun.management.ThreadMXBean;
import java.lang.management.ManagementFactory;
import java.util.Random;

/** A run of 512 calls, most of them of one kind and on a full net, stays inside the one room of all calls. */
public final class RoomTest {
    /** Beside the 42 calls that make the net. */
    private static final int CALLS = 470;
    /** The room has 7.3 million fields and elements: were all of them ints, so many bytes. */
    private static final long MOST_BYTES = 29_000_000;
    private static final String[] KINDS = {
        "trees", "through", "rooted", "forests", "apart", "resistance", "tours", "drawn", "place", "ring", "group",
        "chips and settle", "recurrent", "told", "weigh", "drop and arc", "clear and node", "level and fired", "point",
        "point that throws",
    };

    public static void main(String[] args) {
        Check check = new Check();
        ThreadMXBean bean = (ThreadMXBean) ManagementFactory.getThreadMXBean();
        long id = Thread.currentThread().getId();
        for (int kind = 0; kind < KINDS.length; kind++) {
            int arcs = kind == 18 ? 14 : 30;
            callOften(new TreeCounts(), kind, arcs, 1);
            long before = bean.getThreadAllocatedBytes(id);
            callOften(new TreeCounts(), kind, arcs, CALLS);
            long made = bean.getThreadAllocatedBytes(id) - before;
            check.holds(KINDS[kind] + " made " + made + " bytes in " + CALLS + " calls", made < MOST_BYTES);
        }
        check.end();
    }

    private static void callOften(TreeCounts net, int kind, int arcs, int calls) {
        Random random = new Random(kind);
        for (int node = 0; node < 10; node++) {
            net.node();
        }
        for (int arc = 0; arc < arcs; arc++) {
            net.arc(arc % 10, (arc + 1 + 2 * (arc / 10)) % 10, 1 + random.nextInt(9));
        }
        int tree = net.drawn(net.trees() / 2);
        for (int call = 0; call < calls; call++) {
            callOnce(net, kind, call, tree);
        }
    }

    private static void callOnce(TreeCounts net, int kind, int call, int tree) {
        int node = call % 10;
        switch (kind) {
            case 0: net.trees(); break;
            case 1: net.through(call % 30); break;
            case 2: net.rooted(node); break;
            case 3: net.forests(); break;
            case 4: net.apart(node, call % 9); break;
            case 5: net.resistance(node, call % 9, call % 2); break;
            case 6: net.tours(); break;
            case 7: net.drawn(call * 1000003L); break;
            case 8: net.place(tree); break;
            case 9: net.ring(call % 21, call % 5); break;
            case 10: net.group(call % 3); break;
            case 11: chipsOrSettle(net, call); break;
            case 12: net.recurrent(node); break;
            case 13: net.told(call % 6); break;
            case 14: net.weigh(call % 30, 1 + call % 9); break;
            case 15: dropOrArc(net, call); break;
            case 16: clearOrNode(net, call); break;
            case 17: levelOrFired(net, call); break;
            case 18: net.point(call, -call); break;
            default: refused(net); break;
        }
    }

    private static void chipsOrSettle(TreeCounts net, int call) {
        if (call % 4 == 3) {
            net.settle(call % 9);
        } else {
            net.chips(call % 10, 200);
        }
    }

    private static void dropOrArc(TreeCounts net, int call) {
        if (call % 2 == 0) {
            net.drop();
        } else {
            net.arc(call % 10, call % 9, 1);
        }
    }

    private static void clearOrNode(TreeCounts net, int call) {
        if (call % 2 == 0) {
            net.clear();
        } else {
            net.node();
        }
    }

    private static void levelOrFired(TreeCounts net, int call) {
        if (call % 2 == 0) {
            net.level(call % 10);
        } else {
            net.fired(call % 10);
        }
    }

    private static void refused(TreeCounts net) {
        try {
            net.point(1, 1);
        } catch (IllegalStateException e) {
            return;
        }
        throw new IllegalStateException("30 arcs were not refused");
    }
}
