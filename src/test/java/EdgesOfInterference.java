/** The boundary cases of promises 12 to 14, a test for each sentence. */
final class EdgesOfInterference {
    private EdgesOfInterference() {
    }

    // ---- promise 12

    @Sentence(promise = 12, says = "Masks a channel, or unmasks it.")
    static void maskingTwiceIsMaskingOnce() {
        for (int n : Edges.CHANNEL_NUMBERS) {
            BurstFinder x = Make.withChannels(n);
            Make.mask(x, 0, n - 1, n - 1);
            Check.due("the first and the last of " + n, 2, () -> x.count(3));
            x.setMasked(n - 1, false);
            x.setMasked(n - 1, false);
            Check.due("the last is unmasked", 1, () -> x.count(3));
            x.setMasked(0, false);
            Check.due("none is masked", 0, () -> x.count(3));
        }
    }

    @Sentence(promise = 12, says = "- `masked`: whether it is masked from now on")
    static void aMaskOutlastsItsColumns() {
        BurstFinder x = Make.loaded(4, "1248");
        Make.mask(x, 0, 1, 2, 3);
        Make.addEmpty(x, 48);
        Check.due("all are masked", 4, () -> x.count(3));
        x.inject(0, 47, 9);
        Check.due("no power counts", 0, () -> x.lineSum(0, 47, false));
        x.setMasked(3, false);
        Check.due("one counts", 9, () -> x.lineSum(0, 47, false));
    }

    @Sentence(promise = 12, says = "Returns whether it was masked before.")
    static void setMaskedReturnsThePreviousMask() {
        BurstFinder x = Make.withChannels(16);
        for (int channel : new int[] {0, 15}) {
            Check.due("at first", false, () -> x.setMasked(channel, false));
            Check.due("not masked", false, () -> x.setMasked(channel, true));
            Check.due("masked", true, () -> x.setMasked(channel, true));
            Check.due("masked again", true, () -> x.setMasked(channel, false));
            Check.due("unmasked", false, () -> x.setMasked(channel, false));
        }
        x.strike(1);
        Check.due("masked by strike", true, () -> x.setMasked(0, true));
        x.setChannels(16);
        Check.due("after setChannels", false, () -> x.setMasked(0, true));
    }

    @Sentence(promise = 12,
            says = "Throws `IndexOutOfBoundsException` if the channel does not exist")
    static void noSuchChannelToMask() {
        for (int n : Edges.CHANNEL_NUMBERS) {
            BurstFinder x = Make.withChannels(n);
            for (boolean masked : Edges.BOTH) {
                Edges.refused(x, n + " channels, " + masked, Make.INDEX, Edges.outside(0, n - 1),
                        c -> x.setMasked(c, masked));
            }
            Edges.due("there is channel", false, Edges.from0Below(n), c -> x.setMasked(c, true));
        }
    }

    // ---- promise 13

    @Sentence(promise = 13, says = "Returns the sum of the powers of a channel in all columns.")
    static void channelSumOfNoneAndOfAllColumns() {
        BurstFinder x = Make.withChannels(2);
        Check.due("no columns", 0, () -> x.channelSum(1));
        x.setPending(1, 9999);
        Check.due("what is pending does not count", 0, () -> x.channelSum(1));
        x.advance();
        Check.due("one column", 9999, () -> x.channelSum(1));
        for (int i = 1; i < 48; i++) {
            x.setPending(1, 9999);
            x.advance();
        }
        Check.due("all columns with the greatest power", 48 * 9999, () -> x.channelSum(1));
        Check.due("all columns without power", 0, () -> x.channelSum(0));
        x.advance();
        Check.due("a dropped column does not count", 47 * 9999, () -> x.channelSum(1));
    }

    @Sentence(promise = 13, says = "- `channel`: a channel, masked or not")
    static void channelSumOfMaskedChannels() {
        BurstFinder x = Make.loaded(4, "1248", "1248");
        x.strike(4);
        Check.due("the first", 2, () -> x.channelSum(0));
        Check.due("the last", 16, () -> x.channelSum(3));
        x.setMasked(3, false);
        Check.due("the last, unmasked", 16, () -> x.channelSum(3));
    }

    @Sentence(promise = 13,
            says = "Throws `IndexOutOfBoundsException` if the channel does not exist")
    static void noSuchChannelToSum() {
        for (int n : Edges.CHANNEL_NUMBERS) {
            BurstFinder x = Make.empty(n, 3);
            Edges.due("there is channel", 0, Edges.from0Below(n), x::channelSum);
            Edges.refused(x, n + " channels, channel", Make.INDEX, Edges.outside(0, n - 1),
                    x::channelSum);
        }
    }

    // ---- promise 14

    @Sentence(promise = 14, says = "Masks the channels with the greatest sums of powers.")
    static void strikeTakesTheGreatestSums() {
        BurstFinder x = Make.loaded(4, "0099", "8009");
        x.strike(1);
        Check.due("the greatest sum, 18", true, () -> x.setMasked(3, true));
        x.strike(1);
        Check.due("9 before 8", true, () -> x.setMasked(2, true));
        Check.due("8 is not masked yet", false, () -> x.setMasked(0, false));
        x.strike(1);
        Check.due("8 before 0", true, () -> x.setMasked(0, true));
        Check.due("0 is not masked yet", false, () -> x.setMasked(1, false));
        x.strike(1);
        Check.due("a sum of 0 is struck too", 4, () -> x.count(3));
    }

    private static final String MANY = "- `many`: how many channels; of those that are not masked, "
            + "the ones with the greatest sums are masked, of several with equal sums the lowest "
            + "ones first (all of them if there are not so many)";

    @Sentence(promise = 14, says = MANY)
    static void strikeOfNone() {
        BurstFinder x = Make.loaded(4, "1248");
        Check.due("none", 0, () -> x.strike(0));
        Check.due("masked", 0, () -> x.count(3));
        x.setMasked(1, true);
        Check.due("none again", 0, () -> x.strike(0));
        Check.due("the mask stays", 1, () -> x.count(3));
    }

    @Sentence(promise = 14, says = MANY)
    static void strikeOfEqualSums() {
        BurstFinder x = Make.withChannels(16);
        Check.due("without columns, the lowest", 1, () -> x.strike(1));
        Check.due("the next lowest ones", 6, () -> x.strike(2));
        BurstFinder y = Make.loaded(8, "15353510");
        Check.due("the lowest of the greatest", 1 << 1, () -> y.strike(1));
        Check.due("the others of them, and the lowest behind",
                1 << 3 | 1 << 5 | 1 << 2, () -> y.strike(3));
        Check.due("over a masked one", 1 << 4 | 1 << 0, () -> y.strike(2));
    }

    @Sentence(promise = 14, says = MANY)
    static void strikeOfMoreThanThereAre() {
        BurstFinder x = Make.loaded(4, "1248");
        Make.mask(x, 1, 3);
        Check.due("two are left", 5, () -> x.strike(3));
        Check.due("all are masked", 4, () -> x.count(3));
        Check.due("none is left", 0, () -> x.strike(4));
        Check.due("all are masked still", 4, () -> x.count(3));
    }

    @Sentence(promise = 14, says = "Returns the set of the channels that were masked by this call, "
            + "in which bit c stands for channel c.")
    static void strikeReturnsTheNewlyMasked() {
        for (int n : Edges.CHANNEL_NUMBERS) {
            BurstFinder x = Make.withChannels(n);
            Check.due("all of " + n, (1 << n) - 1, () -> x.strike(n));
            Check.due("none anew", 0, () -> x.strike(n));
            x.setMasked(n - 1, false);
            Check.due("the last alone", 1 << (n - 1), () -> x.strike(n));
            x.setMasked(0, false);
            Check.due("the first alone", 1, () -> x.strike(1));
        }
    }

    @Sentence(promise = 14, says = "Throws `IllegalArgumentException` if many is not 0 to the number "
            + "of channels")
    static void strikeOfTooMany() {
        for (int n : Edges.CHANNEL_NUMBERS) {
            BurstFinder x = Make.withChannels(n);
            Edges.refused(x, n + " channels, many", Make.ARGUMENT, Edges.outside(0, n), x::strike);
            x.setMasked(0, true);
            Check.due("the number of channels", (1 << n) - 2, () -> x.strike(n));
        }
    }
}
