import java.util.Random;

/** Runs of calls with any arguments, on TreeCounts and on SlowNet: both answer the same. */
public final class SlowNetTest {
    private static final int RUNS = 1500;
    private static final int CALLS = 200;

    private final Check check = new Check();
    private final Random random;
    private final int run;
    private final int nodeLimit;
    private final int arcLimit;
    private final int weightLimit;
    private final TreeCounts fast = new TreeCounts();
    private final SlowNet slow = new SlowNet();
    private final StringBuilder told = new StringBuilder();

    private SlowNetTest(int run) {
        this.run = run;
        random = new Random(run);
        nodeLimit = 1 + random.nextInt(6);
        arcLimit = 1 + random.nextInt(11);
        weightLimit = 1 + random.nextInt(9);
    }

    public static void main(String[] args) {
        Check all = new Check();
        for (int run = 0; run < RUNS && all.isClean(); run++) {
            SlowNetTest test = new SlowNetTest(run);
            for (int call = 0; call < CALLS && test.check.isClean(); call++) {
                test.call();
            }
            if (!test.check.isClean()) {
                System.out.println("in run " + run + ":" + test.told);
            }
            all.holds("run " + run, test.check.isClean());
        }
        all.end();
    }

    /** Mostly 0 to limit - 1, sometimes next to that, seldom far off. */
    private int near(int limit) {
        int kind = random.nextInt(60);
        if (kind == 0) {
            return random.nextInt();
        }
        return kind < 6 || limit <= 0 ? (random.nextBoolean() ? -1 : limit + random.nextInt(2)) : random.nextInt(limit);
    }

    private int node() {
        return near(slow.told(0));
    }

    private int arc() {
        return near(slow.told(1));
    }

    private int weight() {
        return random.nextInt(12) == 0 ? near(12) : 1 + random.nextInt(weightLimit);
    }

    private long farOrNear() {
        return random.nextInt(4) == 0 ? random.nextLong() : random.nextInt(9) - 4;
    }

    private void due(String call, long got, long want) {
        told.append(' ').append(call).append(" = ").append(got);
        check.due("run " + run + ", " + call, got, want);
    }

    private void call() {
        int kind = random.nextInt(40);
        if (kind < 14) {
            change(kind);
        } else if (kind < 28) {
            count(kind);
        } else {
            countOn(kind);
        }
    }

    private void change(int kind) {
        if (kind < 4) {
            if (slow.told(0) < nodeLimit) {
                due("node()", fast.node(), slow.node());
            }
        } else if (kind < 10) {
            // every other arc leads on, so that most nets are whole before long
            int from = random.nextBoolean() ? node() : slow.told(1) % Math.max(1, slow.told(0));
            int to = random.nextBoolean() ? node() : from + 1;
            int weight = weight();
            if (slow.told(1) < arcLimit) {
                due("arc(" + from + ", " + to + ", " + weight + ")", fast.arc(from, to, weight), slow.arc(from, to, weight));
            }
        } else if (kind < 12) {
            int arc = arc();
            int weight = weight();
            due("weigh(" + arc + ", " + weight + ")", fast.weigh(arc, weight), slow.weigh(arc, weight));
        } else if (kind == 12 && random.nextInt(3) == 0) {
            due("drop()", fast.drop() ? 1 : 0, slow.drop() ? 1 : 0);
        } else if (kind == 13 && random.nextInt(12) == 0) {
            told.append(" clear()");
            fast.clear();
            slow.clear();
        }
    }

    private void count(int kind) {
        int a = node();
        int b = node();
        int k = near(4);
        switch (kind) {
            case 14: due("trees()", fast.trees(), slow.trees()); break;
            case 15: { int arc = arc(); due("through(" + arc + ")", fast.through(arc), slow.through(arc)); break; }
            case 16: due("rooted(" + a + ")", fast.rooted(a), slow.rooted(a)); break;
            case 17: due("forests()", fast.forests(), slow.forests()); break;
            case 18: due("apart(" + a + ", " + b + ")", fast.apart(a, b), slow.apart(a, b)); break;
            case 19: if (slow.trees() < 100000) { int side = near(2); due("resistance(" + a + ", " + b + ", " + side + ")", fast.resistance(a, b, side), slow.resistance(a, b, side)); } break;
            case 20: case 21: { long tours = slow.tours(); if (tours != SlowNet.TOO_MANY) { due("tours()", fast.tours(), tours); } break; }
            case 22: case 23: { long place = place(); due("drawn(" + place + ")", fast.drawn(place), slow.drawn(place)); break; }
            case 24: case 25: { int tree = tree(); due("place(" + tree + ")", fast.place(tree), slow.place(tree)); break; }
            case 26: { int ring = near(slow.told(3)); due("ring(" + ring + ", " + k + ")", fast.ring(ring, k), slow.ring(ring, k)); break; }
            default: { int round = near(slow.told(5)); due("group(" + round + ")", fast.group(round), slow.group(round)); break; }
        }
    }

    private void countOn(int kind) {
        int a = node();
        switch (kind) {
            case 28: case 29: case 30: { int v = random.nextInt(8) == 0 ? near(202) : random.nextInt(40); due("chips(" + a + ", " + v + ")", fast.chips(a, v), slow.chips(a, v)); break; }
            case 31: due("level(" + a + ")", fast.level(a), slow.level(a)); break;
            case 32: due("settle(" + a + ")", fast.settle(a), slow.settle(a)); break;
            case 33: due("fired(" + a + ")", fast.fired(a), slow.fired(a)); break;
            case 34: case 35: case 36: due("recurrent(" + a + ")", fast.recurrent(a), slow.recurrent(a)); break;
            case 37: { long x = farOrNear(); long y = farOrNear(); due("point(" + x + ", " + y + ")", fast.point(x, y), slow.point(x, y)); break; }
            default: { int what = near(6); due("told(" + what + ")", fast.told(what), slow.told(what)); break; }
        }
    }

    private long place() {
        long trees = slow.trees();
        int kind = random.nextInt(8);
        if (kind == 0 || trees == 0) {
            return farOrNear();
        }
        return kind == 1 ? trees - random.nextInt(3) + 1 : random.nextInt((int) Math.min(trees, 1000000));
    }

    private int tree() {
        int kind = random.nextInt(4);
        if (kind == 0 || slow.trees() == 0) {
            return near(1 << slow.told(1));
        }
        return slow.drawn(place());
    }
}
