import java.util.Random;

/** Nets up to the limits (10 nodes, 30 arcs, weights 9), held against whole numbers of any size. */
public final class BigNetTest {
    private static final Check CHECK = new Check();

    public static void main(String[] args) {
        Random random = new Random(20261115);
        for (int k = 0; k < 300 && CHECK.isClean(); k++) {
            made("net " + k, anyArcs(random, 1 + random.nextInt(30), 1 + random.nextInt(9))).askAll(random);
            made("even net " + k, evenArcs(random)).askAll(random);
            made("round net " + k, roundArcs(random)).askTours();
            made("like net " + k, likeArcs(random)).askGroup();
        }
        made("nines", evenNines()).askAll(random);
        CHECK.end();
    }

    private static BigNet made(String name, int[][] arcs) {
        TreeCounts net = Nets.of(10);
        for (int k = 0; k < arcs.length; k++) {
            CHECK.due(name + ": arc()", net.arc(arcs[k][0], arcs[k][1], arcs[k][2]), k);
        }
        return new BigNet(CHECK, name, net, 10, arcs);
    }

    private static int[][] anyArcs(Random random, int count, int weight) {
        int[][] arcs = new int[count][];
        for (int k = 0; k < count; k++) {
            // most nets are whole: the first arcs hang each node on one before
            int from = k < 9 ? k + 1 : random.nextInt(10);
            int to = k < 9 ? random.nextInt(k + 1) : random.nextInt(10);
            arcs[k] = random.nextBoolean() ? new int[] {from, to, 1 + random.nextInt(weight)} : new int[] {to, from, 1 + random.nextInt(weight)};
        }
        return arcs;
    }

    /** All weights 8 or 9 and all nodes with six arcs: near the largest sums. */
    private static int[][] evenArcs(Random random) {
        int[][] arcs = evenNines();
        for (int[] arc : arcs) {
            arc[2] -= random.nextInt(2);
        }
        return arcs;
    }

    private static int[][] evenNines() {
        int[][] arcs = new int[30][];
        for (int k = 0; k < 30; k++) {
            int step = new int[] {1, 3, 4}[k / 10];
            arcs[k] = new int[] {k % 10, (k + step) % 10, 9};
        }
        return arcs;
    }

    /** Rounds one way, so that each node has as much in as out. */
    private static int[][] roundArcs(Random random) {
        int[][] arcs = new int[5 + random.nextInt(26)][];
        int done = 0;
        while (done < arcs.length) {
            int length = Math.min(arcs.length - done, 1 + random.nextInt(6));
            int weight = 1 + random.nextInt(4);
            int first = random.nextInt(10);
            int at = first;
            for (int k = 1; k <= length; k++) {
                int next = k == length ? first : random.nextInt(10);
                arcs[done++] = new int[] {at, next, weight};
                at = next;
            }
        }
        return arcs;
    }

    /** Many arcs alike, so that the group has several rounds. */
    private static int[][] likeArcs(Random random) {
        int[][] arcs = new int[30][];
        int weight = 2 + random.nextInt(8);
        int parts = 2 + random.nextInt(8);
        for (int k = 0; k < 30; k++) {
            arcs[k] = k < 9 ? new int[] {k + 1, random.nextInt(k + 1), weight}
                : new int[] {random.nextInt(parts), parts + random.nextInt(10 - parts), random.nextInt(5) == 0 ? 1 + random.nextInt(9) : weight};
        }
        return arcs;
    }
}
