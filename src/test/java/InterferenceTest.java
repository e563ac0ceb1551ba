/** Promises 12 to 14: masks, channel sums and strike. */
public final class InterferenceTest {
    private InterferenceTest() {
    }

    private static void promise12SetMasked() {
        BurstFinder x = Make.loaded(4, "1248", "0000");
        Check.due("12: mask", false, () -> x.setMasked(2, true));
        Check.due("12: mask again", true, () -> x.setMasked(2, true));
        Check.due("12: its power does not count", 11, () -> x.lineSum(0, 0, false));
        Check.due("12: nor straight", 11, () -> x.lineSum(0, 0, true));
        Check.due("12: masked", 1, () -> x.count(3));
        Check.due("12: unmask", true, () -> x.setMasked(2, false));
        Check.due("12: unmask again", false, () -> x.setMasked(2, false));
        Check.due("12: its power counts again", 15, () -> x.lineSum(0, 0, false));
        Check.due("12: none", 0, () -> x.count(3));
        Check.due("12: channel 4", Make.INDEX, () -> x.setMasked(4, true));
        for (int far : Make.FAR) {
            Check.due("12: channel " + far, Make.INDEX, () -> x.setMasked(far, true));
        }
        for (int c = 0; c < 4; c++) {
            int channel = c;
            Check.due("12: all, " + c, false, () -> x.setMasked(channel, true));
        }
        Check.due("12: nothing is left", 0, () -> x.lineSum(0, 0, false));
        x.advance();
        Check.due("12: masks outlast columns", 4, () -> x.count(3));
    }

    private static void promise13ChannelSum() {
        BurstFinder x = new BurstFinder();
        Check.due("13: no column", 0, () -> x.channelSum(3));
        for (int i = 0; i < 50; i++) {
            x.setPending(0, i);
            x.setPending(3, 9999);
            x.advance();
        }
        Check.due("13: the kept ones", 49 * 50 / 2 - 1, () -> x.channelSum(0));
        Check.due("13: zero", 0, () -> x.channelSum(1));
        Check.due("13: the greatest", 48 * 9999, () -> x.channelSum(3));
        x.setMasked(3, true);
        x.setPending(3, 1);
        Check.due("13: masked, and pending does not count", 48 * 9999, () -> x.channelSum(3));
        Check.due("13: channel 4", Make.INDEX, () -> x.channelSum(4));
        for (int far : Make.FAR) {
            Check.due("13: channel " + far, Make.INDEX, () -> x.channelSum(far));
        }
    }

    private static void promise14Strike() {
        BurstFinder x = Make.loaded(8, "35191530", "00000002");
        Check.due("14: none", 0, () -> x.strike(0));
        Check.due("14: the greatest", 1 << 3, () -> x.strike(1));
        Check.due("14: equal ones, the lowest", 1 << 1, () -> x.strike(1));
        Check.due("14: two, over equal ones", 1 << 5 | 1 << 0, () -> x.strike(2));
        Check.due("14: masked now", 4, () -> x.count(3));
        x.setMasked(6, true);
        Check.due("14: a masked one is passed over", 1 << 7, () -> x.strike(1));
        Check.due("14: all that are left", 1 << 2 | 1 << 4, () -> x.strike(8));
        Check.due("14: none is left", 0, () -> x.strike(8));
        Check.due("14: all masked", 8, () -> x.count(3));
        x.setMasked(2, false);
        Check.due("14: again", 1 << 2, () -> x.strike(1));
    }

    private static void promise14Edges() {
        BurstFinder x = Make.withChannels(16);
        Check.due("14: no column, the lowest", 7, () -> x.strike(3));
        Check.due("14: all 16", 0xfff8, () -> x.strike(16));
        BurstFinder y = new BurstFinder();
        Check.due("14: 5 of 4", Make.ARGUMENT, () -> y.strike(5));
        for (int far : Make.FAR) {
            Check.due("14: " + far, Make.ARGUMENT, () -> y.strike(far));
        }
        Check.due("14: nothing masked", 0, () -> y.count(3));
        Check.due("14: 4 of 4", 15, () -> y.strike(4));
    }

    public static void main(String[] args) {
        promise12SetMasked();
        promise13ChannelSum();
        promise14Strike();
        promise14Edges();
        Check.finish("InterferenceTest");
    }
}
