import java.util.ArrayList;
import java.util.List;

/** All that can be asked of a net of up to 10 nodes and 30 arcs, in some 350 calls. */
final class State {
    private final TreeCounts net;
    private final List<String> answers = new ArrayList<>();

    private State(TreeCounts net) {
        this.net = net;
    }

    /** The answers; the last calls take the net to pieces, so it is of no use afterwards. */
    static List<String> of(TreeCounts net) {
        State state = new State(net);
        int nodes = net.told(0);
        int arcs = net.told(1);
        state.askCounts();
        state.askNodes(nodes);
        state.askArcs(arcs);
        state.askRings(net.told(3));
        state.askGroup();
        state.takeToPieces(nodes, arcs);
        return state.answers;
    }

    /** Whether the answers are the same; tells the first that is not. */
    static void same(Check check, String what, TreeCounts got, List<String> want) {
        List<String> have = of(got);
        for (int k = 0; k < Math.min(have.size(), want.size()); k++) {
            if (!have.get(k).equals(want.get(k))) {
                check.holds(what + ": " + have.get(k) + ", due is " + want.get(k), false);
                return;
            }
        }
        check.due(what + ", answers", have.size(), want.size());
    }

    private void add(String call, long answer) {
        answers.add(call + " = " + answer);
    }

    private void askCounts() {
        for (int what = 0; what <= 5; what++) {
            add("told(" + what + ")", net.told(what));
        }
        add("trees()", net.trees());
        add("forests()", net.forests());
        add("tours()", net.tours());
        add("point() throws", Nets.pointThrows(net, 3, -2));
        if (net.told(1) <= 14) {
            add("point(3, -2)", net.point(3, -2));
        }
    }

    private void askNodes(int nodes) {
        for (int a = 0; a < nodes; a++) {
            add("level(" + a + ")", net.level(a));
            add("fired(" + a + ")", net.fired(a));
            add("recurrent(" + a + ")", net.recurrent(a));
            add("rooted(" + a + ")", net.rooted(a));
            add("resistance(0, " + a + ", 1)", net.resistance(0, a, 1));
            for (int b = a + 1; b < nodes; b++) {
                add("apart(" + a + ", " + b + ")", net.apart(a, b));
            }
        }
    }

    private void askArcs(int arcs) {
        for (int arc = 0; arc < arcs; arc++) {
            add("through(" + arc + ")", net.through(arc));
        }
        long trees = net.trees();
        int tree = net.drawn(trees / 2);
        add("drawn(half)", tree);
        add("drawn(last)", net.drawn(trees - 1));
        add("place(half)", net.place(tree));
    }

    private void askRings(int rings) {
        for (int ring = 0; ring < rings; ring++) {
            int arc = 0;
            for (int k = 0; k <= 10 && arc != -1; k++) {
                arc = net.ring(ring, k);
                add("ring(" + ring + ", " + k + ")", arc);
            }
        }
    }

    private void askGroup() {
        long round = 0;
        for (int k = 0; k <= 9 && round != -1; k++) {
            round = net.group(k);
            add("group(" + k + ")", round);
        }
    }

    private void takeToPieces(int nodes, int arcs) {
        for (int arc = 0; arc < arcs; arc++) {
            add("weigh(" + arc + ", 1)", net.weigh(arc, 1));
        }
        for (int arc = 0; arc <= arcs; arc++) {
            add("drop()", net.drop() ? 1 : 0);
        }
        for (int node = 0; node < nodes; node++) {
            add("chips(" + node + ", 0)", net.chips(node, 0));
        }
        for (int node = nodes; node <= 10; node++) {
            add("node()", net.node());
        }
    }
}
