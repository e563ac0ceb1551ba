/** Promises 15 to 18: offsets, bends, line sums and means. */
public final class LinesTest {
    private LinesTest() {
    }

    /** Worked out by hand from the document's halving and rounding. */
    private static final int[][] TREE_4 = {{0, 0, 0, 0}, {0, 0, 1, 1}, {0, 1, 1, 2}, {0, 1, 2, 3}};
    private static final int[][] STRAIGHT_4 = {{0, 0, 0, 0}, {0, 0, 1, 1}, {0, 1, 1, 2}, {0, 1, 2, 3}};
    private static final int[][] TREE_8 = {
        {0, 0, 0, 0, 0, 0, 0, 0}, {0, 0, 0, 0, 1, 1, 1, 1},
        {0, 0, 1, 1, 1, 1, 2, 2}, {0, 0, 1, 1, 2, 2, 3, 3},
        {0, 1, 1, 2, 2, 3, 3, 4}, {0, 1, 1, 2, 3, 4, 4, 5},
        {0, 1, 2, 3, 3, 4, 5, 6}, {0, 1, 2, 3, 4, 5, 6, 7}};
    private static final int[][] STRAIGHT_8 = {
        {0, 0, 0, 0, 0, 0, 0, 0}, {0, 0, 0, 0, 1, 1, 1, 1},
        {0, 0, 1, 1, 1, 1, 2, 2}, {0, 0, 1, 1, 2, 2, 3, 3},
        {0, 1, 1, 2, 2, 3, 3, 4}, {0, 1, 1, 2, 3, 4, 4, 5},
        {0, 1, 2, 3, 3, 4, 5, 6}, {0, 1, 2, 3, 4, 5, 6, 7}};
    private static final int[] TREE_16_OF_5 = {0, 0, 1, 1, 1, 1, 2, 2, 3, 3, 4, 4, 4, 4, 5, 5};
    private static final int[] STRAIGHT_16_OF_5 = {0, 0, 1, 1, 1, 2, 2, 2, 3, 3, 3, 4, 4, 4, 5, 5};
    private static final int[] BENDS_16 = {0, 0, 0, 1, 0, 1, 1, 0, 0, 1, 1, 0, 1, 0, 0, 0};

    private static void dueOffsets(int channels, int slope, boolean straight, int[] want) {
        BurstFinder x = Make.withChannels(channels);
        for (int c = 0; c < want.length; c++) {
            int channel = c;
            Check.due("15: " + channels + " channels, offset(" + slope + ", " + c + ", " + straight
                    + ")", want[c], () -> x.offset(slope, channel, straight));
        }
    }

    private static void promise15Offset() {
        dueOffsets(2, 0, false, new int[] {0, 0});
        dueOffsets(2, 1, false, new int[] {0, 1});
        dueOffsets(2, 0, true, new int[] {0, 0});
        dueOffsets(2, 1, true, new int[] {0, 1});
        for (int d = 0; d < 4; d++) {
            dueOffsets(4, d, false, TREE_4[d]);
            dueOffsets(4, d, true, STRAIGHT_4[d]);
        }
        for (int d = 0; d < 8; d++) {
            dueOffsets(8, d, false, TREE_8[d]);
            dueOffsets(8, d, true, STRAIGHT_8[d]);
        }
        dueOffsets(16, 5, false, TREE_16_OF_5);
        dueOffsets(16, 5, true, STRAIGHT_16_OF_5);
        for (int d = 0; d < 16; d++) {
            int slope = d;
            BurstFinder x = Make.withChannels(16);
            Check.due("15: last channel, tree", d, () -> x.offset(slope, 15, false));
            Check.due("15: last channel, straight", d, () -> x.offset(slope, 15, true));
        }
    }

    private static void promise15Refuses() {
        BurstFinder x = new BurstFinder();
        for (boolean s : new boolean[] {false, true}) {
            Check.due("15: slope 4", Make.INDEX, () -> x.offset(4, 0, s));
            Check.due("15: channel 4", Make.INDEX, () -> x.offset(0, 4, s));
            for (int far : Make.FAR) {
                Check.due("15: slope " + far, Make.INDEX, () -> x.offset(far, 0, s));
                Check.due("15: channel " + far, Make.INDEX, () -> x.offset(0, far, s));
            }
        }
    }

    private static void promise16Bend() {
        for (int n : new int[] {2, 4, 8, 16}) {
            BurstFinder x = Make.withChannels(n);
            for (int d = 0; d < n; d++) {
                int slope = d;
                int want = n == 16 ? BENDS_16[d] : 0;
                Check.due("16: " + n + " channels, bend(" + d + ")", want, () -> x.bend(slope));
            }
            Check.due("16: slope " + n, Make.INDEX, () -> x.bend(n));
            for (int far : Make.FAR) {
                Check.due("16: slope " + far, Make.INDEX, () -> x.bend(far));
            }
        }
    }

    private static void promise17LineSum() {
        BurstFinder x = Make.loaded(4, "1000", "0200", "0040", "0008", "G000");
        Check.due("17: slope 3", 15, () -> x.lineSum(3, 0, false));
        Check.due("17: slope 3, straight", 15, () -> x.lineSum(3, 0, true));
        Check.due("17: slope 3, from 1", 0, () -> x.lineSum(3, 1, false));
        Check.due("17: slope 2", 3, () -> x.lineSum(2, 0, false));
        Check.due("17: slope 2, from 1", 12, () -> x.lineSum(2, 1, false));
        Check.due("17: slope 1, from 2", 8, () -> x.lineSum(1, 2, false));
        Check.due("17: slope 0, from 4", 16, () -> x.lineSum(0, 4, false));
        x.setMasked(3, true);
        Check.due("17: masked", 7, () -> x.lineSum(3, 0, false));
        Check.due("17: masked, straight", 7, () -> x.lineSum(3, 0, true));
        x.inject(3, 0, 10);
        Check.due("17: after inject", 37, () -> x.lineSum(3, 0, false));
        x.setPending(0, 3);
        x.advance();
        Check.due("17: after advance", 3, () -> x.lineSum(0, 5, false));
    }

    private static void promise17TreeAndStraightDiffer() {
        BurstFinder x = Make.withChannels(16);
        for (int t = 0; t < 20; t++) {
            for (int c = 0; c < 16; c++) {
                x.setPending(c, t * 100 + c);
            }
            x.advance();
        }
        int tree = 0;
        int straight = 0;
        for (int c = 0; c < 16; c++) {
            tree += (7 + TREE_16_OF_5[c]) * 100 + c;
            straight += (7 + STRAIGHT_16_OF_5[c]) * 100 + c;
        }
        Check.due("17: tree of 16", tree, () -> x.lineSum(5, 7, false));
        Check.due("17: straight of 16", straight, () -> x.lineSum(5, 7, true));
    }

    private static void promise17Refuses() {
        BurstFinder x = new BurstFinder();
        Make.addEmpty(x, 5);
        for (boolean s : new boolean[] {false, true}) {
            Check.due("17: the last line of 3", 0, () -> x.lineSum(3, 1, s));
            Check.due("17: one later", Make.INDEX, () -> x.lineSum(3, 2, s));
            Check.due("17: the last line of 0", 0, () -> x.lineSum(0, 4, s));
            Check.due("17: behind the columns", Make.INDEX, () -> x.lineSum(0, 5, s));
            Check.due("17: slope 4", Make.INDEX, () -> x.lineSum(4, 0, s));
            for (int far : Make.FAR) {
                Check.due("17: slope " + far, Make.INDEX, () -> x.lineSum(far, 0, s));
                Check.due("17: column " + far, Make.INDEX, () -> x.lineSum(3, far, s));
            }
        }
        BurstFinder y = Make.withChannels(16);
        Make.addEmpty(y, 3);
        Check.due("17: too few columns for the slope", Make.INDEX, () -> y.lineSum(15, 0, false));
        Check.due("17: too few columns, straight", Make.INDEX, () -> y.lineSum(3, 0, true));
    }

    private static void promise18Mean() {
        BurstFinder x = Make.loaded(4, "1000", "0200", "0040", "0008");
        Check.due("18: slope 0", 15.0 / 4.0, () -> x.mean(0));
        Check.due("18: slope 3", 15.0, () -> x.mean(3));
        x.setPending(0, 6);
        x.advance();
        Check.due("18: slope 0 of 5", 21.0 / 5.0, () -> x.mean(0));
        Check.due("18: slope 2 of 3", 5.0, () -> x.mean(2));
        Check.due("18: slope 3 of 2", 7.5, () -> x.mean(3));
        x.setMasked(3, true);
        Check.due("18: masked", 13.0 / 5.0, () -> x.mean(0));
        Check.due("18: slope 4", Make.INDEX, () -> x.mean(4));
        for (int far : Make.FAR) {
            Check.due("18: slope " + far, Make.INDEX, () -> x.mean(far));
        }
        BurstFinder y = new BurstFinder();
        Check.due("18: no column", 0.0, () -> y.mean(0));
        Make.addEmpty(y, 3);
        Check.due("18: no line", 0.0, () -> y.mean(3));
        Check.due("18: lines without power", 0.0, () -> y.mean(2));
    }

    public static void main(String[] args) {
        promise15Offset();
        promise15Refuses();
        promise16Bend();
        promise17LineSum();
        promise17TreeAndStraightDiffer();
        promise17Refuses();
        promise18Mean();
        Check.finish("LinesTest");
    }
}
