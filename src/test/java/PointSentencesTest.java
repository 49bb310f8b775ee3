/** The boundaries that promise 22 names: the sum over all sets of arcs at a point. */
public final class PointSentencesTest {
    private static final long LEAST = Long.MIN_VALUE;
    private static final long MOST = Long.MAX_VALUE;

    public static void main(String[] args) {
        Sentences sentences = new Sentences();
        sentences.ask("22: The sum over all sets of ARCS", PointSentencesTest::sums);
        sentences.ask("22: wrapping", PointSentencesTest::wraps);
        sentences.ask("22: m how many ARCS it has (each once, whatever its WEIGHT)", PointSentencesTest::whateverWeight);
        sentences.ask("22: (0 to the power of 0 is 1.)", PointSentencesTest::zeroToZero);
        sentences.ask("22: IllegalStateException: there are more than 14 ARCS.", PointSentencesTest::moreThanFourteen);
        sentences.end();
    }

    private static void sums(Check check) {
        for (int x = -3; x <= 4; x++) {
            for (int y = -3; y <= 4; y++) {
                String at = "point(" + x + ", " + y + ") of ";
                check.due(at + "nothing", new TreeCounts().point(x, y), 1);
                check.due(at + "ten nodes", Nets.of(10).point(x, y), 1);
                check.due(at + "an arc", Nets.of(2, 0, 1, 3).point(x, y), x);
                check.due(at + "an arc and nodes aside", Nets.of(10, 3, 7, 3).point(x, y), x);
                check.due(at + "a loop", Nets.of(1, 0, 0, 3).point(x, y), y);
                check.due(at + "two arcs side by side", Nets.of(2, 0, 1, 1, 1, 0, 1).point(x, y), x + y);
                check.due(at + "a round of three", Nets.round(3, 1).point(x, y), x * x + x + y);
                check.due(at + "an arc and a loop", Nets.of(2, 0, 1, 1, 1, 1, 1).point(x, y), x * y);
                check.due(at + "a line of ten", Nets.line(10, 1).point(x, y), power(x, 9));
            }
        }
        TreeCounts net = Nets.petersen();
        net.drop();
        check.due("point(1, 1) of a whole net: its trees", net.point(1, 1), net.trees());
        check.due("point(2, 2): all sets", net.point(2, 2), 1 << 14);
    }

    private static long power(long base, int exponent) {
        long power = 1;
        for (int k = 0; k < exponent; k++) {
            power *= base;
        }
        return power;
    }

    private static void wraps(Check check) {
        for (long far : new long[] {LEAST, MOST, LEAST + 1, MOST - 1, 1L << 32, -1L << 32, 3037000500L}) {
            check.due("an arc at " + far, Nets.of(2, 0, 1, 1).point(far, 5), far);
            check.due("a loop at " + far, Nets.of(1, 0, 0, 1).point(5, far), far);
            check.due("two arcs at " + far, Nets.line(3, 1).point(far, 5), far * far);
            check.due("two side by side at " + far, Nets.of(2, 0, 1, 1, 1, 0, 1).point(far, far), far + far);
            check.due("a round of three at " + far, Nets.round(3, 1).point(far, far), far * far + far + far);
            askSlow(check, 10, far, 3);
            askSlow(check, 10, 3, far);
            askSlow(check, 10, far, far);
            askSlow(check, 10, far, ~far);
        }
        askSlow(check, 14, MOST, LEAST);
        askSlow(check, 14, 3, -2);
        check.due("nine arcs at 3037000500", Nets.line(10, 1).point(3037000500L, 0), power(3037000500L, 9));
        TreeCounts loops = Nets.bundle(1, 14, 1);
        check.due("fourteen loops at -3", loops.point(0, -3), 4782969);
        check.due("fourteen loops at 32, which is 2^70", loops.point(0, 32), 0);
        check.due("fourteen loops at 23", loops.point(0, 23), power(23, 14));
        check.due("fourteen loops at the least", loops.point(0, LEAST), 0);
        check.due("fourteen loops at the most", loops.point(0, MOST), 1);
    }

    /** A net of seven nodes, in three parts, held against all its sets of arcs one by one. */
    private static void askSlow(Check check, int arcs, long x, long y) {
        TreeCounts net = new TreeCounts();
        SlowNet slow = new SlowNet();
        for (int node = 0; node < 7; node++) {
            check.due("node()", net.node(), slow.node());
        }
        for (int k = 0; k < arcs; k++) {
            int from = k % 5;
            int to = (k * k + 1) % 5;
            check.due("arc()", net.arc(from, to, 1 + k % 9), slow.arc(from, to, 1 + k % 9));
        }
        check.due("point(" + x + ", " + y + ")", net.point(x, y), slow.point(x, y));
    }

    private static void whateverWeight(Check check) {
        TreeCounts net = Nets.allJoined(4, 1);
        for (int arc = 0; arc < 6; arc++) {
            for (int weight = 1; weight <= 9; weight++) {
                net.weigh(arc, weight);
                check.due("point(1, 1), arc " + arc + " by " + weight, net.point(1, 1), 16);
                check.due("point(2, 2), arc " + arc + " by " + weight, net.point(2, 2), 64);
                check.due("point(-2, 3), arc " + arc + " by " + weight, net.point(-2, 3), Nets.allJoined(4, 1).point(-2, 3));
            }
        }
        TreeCounts heavy = Nets.bundle(2, 14, 9);
        check.due("14 arcs of weight 9", heavy.point(2, 2), 16384);
    }

    private static void zeroToZero(Check check) {
        check.due("nothing at 1, 1", new TreeCounts().point(1, 1), 1);
        check.due("one node at 1, 1", Nets.of(1).point(1, 1), 1);
        check.due("two nodes at 1, 1", Nets.of(2).point(1, 1), 1);
        check.due("an arc at 1, 1", Nets.of(2, 0, 1, 9).point(1, 1), 1);
        check.due("a loop at 1, 1", Nets.of(1, 0, 0, 9).point(1, 1), 1);
        check.due("a round at 1, 1", Nets.round(10, 9).point(1, 1), 10);
        check.due("a round at 1, 2", Nets.round(10, 9).point(1, 2), 11);
        check.due("a round at 2, 1", Nets.round(10, 9).point(2, 1), 1023);
        // not whole: the trees of both parts
        check.due("two rounds at 1, 1", Nets.of(6, 0, 1, 1, 1, 2, 1, 2, 0, 1, 3, 4, 1, 4, 5, 1, 5, 3, 1).point(1, 1), 9);
        check.due("14 arcs side by side at 1, 1", Nets.bundle(2, 14, 9).point(1, 1), 14);
        check.due("14 loops at 1, 1", Nets.bundle(1, 14, 9).point(1, 1), 1);
    }

    private static void moreThanFourteen(Check check) {
        for (int arcs = 0; arcs <= 30; arcs++) {
            int due = arcs > 14 ? 1 : 0;
            check.due(arcs + " arcs side by side: throws", Nets.pointThrows(Nets.bundle(2, arcs, 1), 1, 1), due);
            check.due(arcs + " loops: throws", Nets.pointThrows(Nets.bundle(1, arcs, 1), LEAST, MOST), due);
        }
        TreeCounts net = Nets.bundle(2, 14, 1);
        check.due("14 arcs", net.point(0, 2), 16382);
        net.arc(0, 1, 1);
        check.due("15 arcs: throws", Nets.pointThrows(net, 0, 2), 1);
        check.due("15 arcs: throws again", Nets.pointThrows(net, 0, 2), 1);
        check.due("told(1) behind it", net.told(1), 15);
        check.due("trees() behind it", net.trees(), 15);
        net.drop();
        check.due("14 arcs again", net.point(0, 2), 16382);
        TreeCounts full = Nets.full(9);
        check.due("30 arcs: throws", Nets.pointThrows(full, 1, 1), 1);
        full.clear();
        check.due("none: throws", Nets.pointThrows(full, 1, 1), 0);
    }
}
