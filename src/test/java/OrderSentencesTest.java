import java.util.List;

/** The boundaries that promises 13 to 16 name: trees at places, rings and the group, one by one. */
public final class OrderSentencesTest {
    private static final int LEAST = Integer.MIN_VALUE;
    private static final int MOST = Integer.MAX_VALUE;

    public static void main(String[] args) {
        Sentences sentences = new Sentences();
        sentences.ask("13: The TREE at a place of THE ROW, from 0: as bits of ARCS", OrderSentencesTest::drawnFromZero);
        sentences.ask("13: NONE when there is none such", OrderSentencesTest::drawnNone);
        sentences.ask("14: The first place of THE ROW with a TREE (bits of ARCS)", OrderSentencesTest::firstPlaces);
        sentences.ask("14: NONE when it is none", OrderSentencesTest::placeNone);
        sentences.ask("15: The k-th ARC of a RING, from 0", OrderSentencesTest::ringsFromZero);
        sentences.ask("15: NONE when there is none such", OrderSentencesTest::ringNone);
        sentences.ask("16: d(k + 1) of THE GROUP", OrderSentencesTest::groupFromZero);
        sentences.ask("16: NONE when there is none such", OrderSentencesTest::groupNone);
        sentences.ask("16: or the net is not WHOLE", OrderSentencesTest::groupNotWhole);
        sentences.end();
    }

    private static void drawnFromZero(Check check) {
        TreeCounts one = Nets.of(1);
        check.due("drawn(0) of one node", one.drawn(0), 0);
        TreeCounts line = Nets.line(10, 9);
        check.due("drawn(0) of a line", line.drawn(0), 511);
        check.due("drawn(1) of a line", line.drawn(1), 511);
        check.due("drawn(9^9 - 1) of a line", line.drawn(387420488), 511);
        TreeCounts loops = Nets.bundle(2, 30, 1);
        check.due("drawn(0): arc 0", loops.drawn(0), 1);
        check.due("drawn(29): arc 29", loops.drawn(29), 1 << 29);
        // of the arcs that close a round of ten, the last one is missing first, and arc 0 last
        TreeCounts round = Nets.round(10, 9);
        check.due("drawn(0) of a round", round.drawn(0), 0x1ff);
        for (int k = 0; k < 10; k++) {
            check.due("the first without arc " + (9 - k), round.drawn(k * 387420489L), 0x3ff & ~(1 << 9 - k));
            check.due("the last without arc " + (9 - k), round.drawn((k + 1) * 387420489L - 1), 0x3ff & ~(1 << 9 - k));
        }
        TreeCounts full = Nets.full(9);
        long trees = full.trees();
        check.holds("a place above every int", trees > 1L << 40);
        check.due("the last tree has arcs from the last ones", full.drawn(trees - 1) & 1, 0);
        check.due("the first tree has arcs 0 to 8", full.drawn(0), 0x1ff);
        check.due("the last place of the first tree", full.drawn(387420488), 0x1ff);
        check.holds("the next place has another tree", full.drawn(387420489) != 0x1ff);
    }

    private static void drawnNone(Check check) {
        TreeCounts[] nets = {new TreeCounts(), Nets.of(1), Nets.of(1, 0, 0, 9), Nets.of(2), Nets.of(2, 0, 1, 9), Nets.of(2, 0, 0, 9),
            Nets.of(3, 0, 1, 9), Nets.line(10, 9), Nets.round(10, 9), Nets.full(9), Nets.bundle(10, 30, 9)};
        for (TreeCounts net : nets) {
            long trees = net.trees();
            check.due("drawn(-1) of " + trees, net.drawn(-1), -1);
            check.due("drawn(THE COUNT) of " + trees, net.drawn(trees), -1);
            check.due("drawn(THE COUNT + 1) of " + trees, net.drawn(trees + 1), -1);
            check.due("drawn(least) of " + trees, net.drawn(Long.MIN_VALUE), -1);
            check.due("drawn(least + 1) of " + trees, net.drawn(Long.MIN_VALUE + 1), -1);
            check.due("drawn(most) of " + trees, net.drawn(Long.MAX_VALUE), -1);
            check.due("drawn(- THE COUNT) of " + trees, net.drawn(-trees - 1), -1);
            // a place that is fine in its lower half only
            check.due("drawn(2^52) of " + trees, net.drawn(1L << 52), -1);
            check.due("drawn(-2^32) of " + trees, net.drawn(-1L << 32), -1);
            if (trees > 0) {
                check.holds("drawn(0) of " + trees, net.drawn(0) >= 0);
                check.holds("drawn(THE COUNT - 1) of " + trees, net.drawn(trees - 1) >= 0);
            } else {
                check.due("drawn(0) of none", net.drawn(0), -1);
            }
        }
        check.due("drawn(2^32) of eleven", Nets.of(3, 0, 1, 2, 1, 2, 1, 2, 0, 3).drawn(1L << 32), -1);
    }

    private static void firstPlaces(Check check) {
        check.due("place(0) of one node", Nets.of(1).place(0), 0);
        check.due("place of a line", Nets.line(10, 9).place(511), 0);
        TreeCounts round = Nets.round(10, 9);
        for (int k = 0; k < 10; k++) {
            check.due("place without arc " + (9 - k), round.place(0x3ff & ~(1 << 9 - k)), k * 387420489L);
        }
        TreeCounts bundle = Nets.bundle(2, 30, 9);
        for (int arc = 0; arc < 30; arc++) {
            check.due("place of arc " + arc, bundle.place(1 << arc), 9 * arc);
        }
        TreeCounts full = Nets.full(9);
        long trees = full.trees();
        int last = full.drawn(trees - 1);
        check.due("place of the last tree", full.place(last), trees - 387420489);
        check.due("place of the first tree", full.place(0x1ff), 0);
        TreeCounts weighed = Nets.of(2, 0, 1, 3, 0, 1, 4);
        check.due("place(2)", weighed.place(2), 3);
        weighed.weigh(0, 9);
        check.due("place(2), arc 0 weighed", weighed.place(2), 9);
    }

    private static void placeNone(Check check) {
        for (TreeCounts net : List.of(new TreeCounts(), Nets.of(2), Nets.of(2, 0, 0, 1), Nets.of(3, 0, 1, 9), Nets.bundle(10, 30, 9))) {
            for (int set : new int[] {0, 1, 2, 3, -1, LEAST, MOST, 1 << 29, 1 << 30, (1 << 30) - 1}) {
                check.due("place(" + set + ") of a net that is not whole", net.place(set), -1);
            }
        }
        TreeCounts one = Nets.of(1, 0, 0, 5);
        check.due("place(0) of one node", one.place(0), 0);
        for (int set : new int[] {1, 2, 3, -1, LEAST, MOST, 1 << 30}) {
            check.due("place(" + set + ") of one node", one.place(set), -1);
        }
        // arcs 0, 1, 2 are a round of three, 3 a loop, 4 leads to node 3
        TreeCounts net = Nets.of(4, 0, 1, 1, 1, 2, 1, 2, 0, 1, 0, 0, 1, 3, 0, 1);
        int found = 0;
        for (int set = 0; set < 64; set++) {
            boolean tree = set == 0b10011 || set == 0b10101 || set == 0b10110;
            check.due("place(" + set + ")", net.place(set), tree ? found++ : -1);
        }
        for (int bit = 5; bit <= 31; bit++) {
            check.due("a tree and bit " + bit, net.place(0b10011 | 1 << bit), -1);
        }
        TreeCounts bundle = Nets.bundle(2, 30, 9);
        check.due("place of arc 29", bundle.place(1 << 29), 261);
        for (int set : new int[] {0, 3, 1 << 30, 1 << 31, 1 << 29 | 1 << 30, 1 << 29 | 1 << 31, 1 << 29 | 1, -1, MOST, LEAST + 1}) {
            check.due("place(" + set + ") of a bundle", bundle.place(set), -1);
        }
        bundle.drop();
        check.due("place of arc 29, dropped", bundle.place(1 << 29), -1);
        check.due("place of arc 28", bundle.place(1 << 28), 252);
    }

    private static void ringsFromZero(Check check) {
        // the first trees are the arcs 0, 1, 3, 5; ring 0 is a loop, 1 goes back by 1 and 0, 2 by 3, 3 is long
        TreeCounts net = Nets.of(5, 0, 1, 1, 1, 2, 1, 2, 2, 1, 2, 3, 1, 2, 0, 1, 3, 4, 1, 3, 2, 1, 0, 4, 1);
        int[][] rings = {{2}, {4, 0, 1}, {6, 3}, {7, 5, 3, 1, 0}};
        check.due("rings", net.told(3), rings.length);
        for (int ring = 0; ring < rings.length; ring++) {
            for (int k = 0; k < rings[ring].length; k++) {
                check.due("ring(" + ring + ", " + k + ")", net.ring(ring, k), rings[ring][k]);
            }
            check.due("ring(" + ring + ", " + rings[ring].length + ")", net.ring(ring, rings[ring].length), -1);
        }
        TreeCounts round = Nets.round(10, 1);
        for (int k = 0; k < 10; k++) {
            check.due("ring(0, " + k + ") of ten", round.ring(0, k), k == 0 ? 9 : k - 1);
        }
        TreeCounts bundle = Nets.bundle(10, 30, 1);
        for (int ring = 0; ring < 29; ring++) {
            check.due("ring(" + ring + ", 0) of a bundle", bundle.ring(ring, 0), ring + 1);
            check.due("ring(" + ring + ", 1) of a bundle", bundle.ring(ring, 1), 0);
            check.due("ring(" + ring + ", 2) of a bundle", bundle.ring(ring, 2), -1);
        }
    }

    private static void ringNone(Check check) {
        for (TreeCounts net : List.of(new TreeCounts(), Nets.of(1), Nets.of(10), Nets.line(10, 9), Nets.round(10, 9), Nets.full(9), Nets.bundle(10, 30, 9))) {
            int rings = net.told(3);
            int length = net.told(4);
            for (int ring : new int[] {-1, rings, rings + 1, 30, LEAST, MOST, -30, 1 << 16}) {
                check.due("ring(" + ring + ", 0) of " + rings, net.ring(ring, 0), -1);
                check.due("ring(" + ring + ", -1) of " + rings, net.ring(ring, -1), -1);
                check.due("ring(" + ring + ", most) of " + rings, net.ring(ring, MOST), -1);
            }
            for (int k : new int[] {-1, length, length + 1, 10, 11, 30, LEAST, MOST, -10, 1 << 16}) {
                check.due("ring(0, " + k + ") of " + length, net.ring(0, k), -1);
                check.due("ring(last, " + k + ")", net.ring(rings - 1, Math.max(k, 10)), -1);
            }
            if (rings > 0) {
                check.holds("ring(0, 0)", net.ring(0, 0) >= 0);
                check.holds("ring(0, last)", net.ring(0, length - 1) >= 0);
                check.holds("ring(last, 0)", net.ring(rings - 1, 0) >= 0);
            }
        }
    }

    private static void groupFromZero(Check check) {
        TreeCounts line = Nets.line(10, 9);
        for (int k = 0; k < 9; k++) {
            check.due("group(" + k + ") of a line by 9", line.group(k), 9);
        }
        check.due("group(9) of a line by 9", line.group(9), -1);
        TreeCounts net = Nets.of(4, 0, 1, 2, 1, 2, 4, 2, 3, 8);
        check.due("group(0)", net.group(0), 2);
        check.due("group(1)", net.group(1), 4);
        check.due("group(2)", net.group(2), 8);
        check.due("group(3)", net.group(3), -1);
        check.due("rounds of 1 are none", Nets.of(3, 0, 1, 1, 1, 2, 5).group(0), 5);
        check.due("and none behind it", Nets.of(3, 0, 1, 1, 1, 2, 5).group(1), -1);
        check.due("a bundle", Nets.bundle(2, 30, 9).group(0), 270);
    }

    private static void groupNone(Check check) {
        for (TreeCounts net : List.of(Nets.of(1), Nets.of(2, 0, 1, 1), Nets.line(10, 1), Nets.line(10, 9), Nets.petersen(), Nets.full(9), Nets.bundle(2, 30, 9))) {
            int rounds = net.told(5);
            for (int k : new int[] {-1, rounds, rounds + 1, 9, 10, 11, LEAST, MOST, -9, 1 << 16}) {
                check.due("group(" + k + ") of " + rounds, net.group(k), -1);
            }
            if (rounds > 0) {
                check.holds("group(0)", net.group(0) > 1);
                check.holds("group(last)", net.group(rounds - 1) > 1);
            }
        }
    }

    private static void groupNotWhole(Check check) {
        TreeCounts net = Nets.of(3, 0, 1, 9);
        check.due("a node aside", net.group(0), -1);
        net.arc(1, 2, 9);
        check.due("whole, group(0)", net.group(0), 9);
        check.due("whole, group(1)", net.group(1), 9);
        net.drop();
        check.due("not whole again", net.group(0), -1);
        for (TreeCounts none : List.of(new TreeCounts(), Nets.of(2), Nets.of(10), Nets.bundle(10, 30, 9), Nets.of(4, 0, 1, 9, 2, 3, 9))) {
            for (int k : new int[] {0, 1, 8, -1, LEAST, MOST}) {
                check.due("group(" + k + ")", none.group(k), -1);
            }
        }
    }
}
