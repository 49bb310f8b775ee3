import java.util.ArrayList;
import java.util.List;
import java.util.Random;

/**
 * Long runs of calls on nets up to the limits. The calls that SlowNet can answer for many arcs are
 * held against it, all 512 of a run; behind other runs all sums are asked of what the net has become.
 */
public final class LongRunTest {
    private static final int LONG_RUNS = 200;
    private static final int SUM_RUNS = 200;
    private static final int CALLS = 512;
    private static final int CALLS_BEFORE_SUMS = 130;

    private final Check check;
    private final Random random;
    private final int run;
    private final int lastWeight;
    private final TreeCounts fast = new TreeCounts();
    private final SlowNet slow = new SlowNet();
    private final List<int[]> arcs = new ArrayList<>();

    private LongRunTest(Check check, int run) {
        this.check = check;
        this.run = run;
        random = new Random(run);
        lastWeight = 1 + random.nextInt(9);
    }

    public static void main(String[] args) {
        Check check = new Check();
        for (int run = 0; run < LONG_RUNS && check.isClean(); run++) {
            LongRunTest test = new LongRunTest(check, run);
            for (int call = 0; call < CALLS && check.isClean(); call++) {
                test.callOnce(call);
            }
        }
        for (int run = 0; run < SUM_RUNS && check.isClean(); run++) {
            LongRunTest test = new LongRunTest(check, LONG_RUNS + run);
            for (int call = 0; call < CALLS_BEFORE_SUMS && check.isClean(); call++) {
                test.callOnce(call);
            }
            test.askSums();
        }
        check.end();
    }

    private void due(String call, long got, long want) {
        check.due("run " + run + ", " + call, got, want);
    }

    /** Mostly 0 to limit - 1, sometimes the next on either side, seldom far off. */
    private int near(int limit) {
        int kind = random.nextInt(40);
        if (kind == 0) {
            return random.nextBoolean() ? random.nextInt() : random.nextBoolean() ? Integer.MIN_VALUE : Integer.MAX_VALUE;
        }
        return kind < 4 || limit <= 0 ? (random.nextBoolean() ? -1 : limit) : random.nextInt(limit);
    }

    private int weight() {
        int kind = random.nextInt(20);
        return kind == 0 ? 0 : kind == 1 ? 10 : 1 + random.nextInt(lastWeight);
    }

    private void callOnce(int call) {
        int kind = random.nextInt(100);
        if (call < 12 || kind < 3 || slow.told(0) < 3 && kind < 50) {
            due("node()", fast.node(), slow.node());
        } else if (call < 45 || kind < 10) {
            addArc();
        } else if (kind < 20) {
            weigh();
        } else if (kind < 24) {
            drop();
        } else if (kind == 24 && random.nextInt(8) == 0) {
            clear();
        } else if (kind < 70) {
            useChips(kind);
        } else {
            askForm(kind);
        }
    }

    private void addArc() {
        // every other arc leads from a node to the next one, so that most nets become whole
        int from = random.nextBoolean() ? near(slow.told(0)) : slow.told(1) % Math.max(1, slow.told(0));
        int to = random.nextBoolean() ? near(slow.told(0)) : from + 1;
        int weight = weight();
        int due = slow.arc(from, to, weight);
        due("arc(" + from + ", " + to + ", " + weight + ")", fast.arc(from, to, weight), due);
        if (due != -1) {
            arcs.add(new int[] {from, to, weight});
        }
    }

    private void weigh() {
        int arc = near(slow.told(1));
        int weight = weight();
        int due = slow.weigh(arc, weight);
        due("weigh(" + arc + ", " + weight + ")", fast.weigh(arc, weight), due);
        if (due != -1) {
            arcs.get(arc)[2] = weight;
        }
    }

    private void drop() {
        boolean due = slow.drop();
        due("drop()", fast.drop() ? 1 : 0, due ? 1 : 0);
        if (due) {
            arcs.remove(arcs.size() - 1);
        }
    }

    private void clear() {
        fast.clear();
        slow.clear();
        arcs.clear();
    }

    private void useChips(int kind) {
        int node = near(slow.told(0));
        if (kind < 40) {
            int v = random.nextInt(4) == 0 ? near(201) : random.nextInt(60);
            due("chips(" + node + ", " + v + ")", fast.chips(node, v), slow.chips(node, v));
        } else if (kind < 46) {
            due("settle(" + node + ")", fast.settle(node), slow.settle(node));
        } else if (kind < 54) {
            due("level(" + node + ")", fast.level(node), slow.level(node));
        } else if (kind < 62) {
            due("fired(" + node + ")", fast.fired(node), slow.fired(node));
        } else {
            due("recurrent(" + node + ")", fast.recurrent(node), slow.recurrent(node));
        }
    }

    private void askForm(int kind) {
        if (kind < 80) {
            int what = random.nextInt(5);
            due("told(" + what + ")", fast.told(what), slow.told(what));
        } else if (kind < 96) {
            int ring = near(slow.told(3));
            int k = near(4);
            due("ring(" + ring + ", " + k + ")", fast.ring(ring, k), slow.ring(ring, k));
        } else {
            due("point() throws", Nets.pointThrows(fast, 1, 1), slow.told(1) > 14 ? 1 : 0);
        }
    }

    private void askSums() {
        int nodes = slow.told(0);
        if (nodes > 0 && !arcs.isEmpty()) {
            new BigNet(check, "run " + run, fast, nodes, arcs.toArray(new int[0][])).askAll(random);
        }
    }
}
