/** The boundary cases of promises 1 to 11, a test for each sentence. */
final class EdgesOfData {
    private EdgesOfData() {
    }

    // ---- promise 1

    @Sentence(promise = 1, says = "Creates a finder with 4 channels, none of them masked, without "
            + "columns and candidates, and with an empty buffer; the pending column has only powers 0.")
    static void aNewObjectIsEmpty() {
        BurstFinder x = new BurstFinder();
        Check.due("channels", 4, () -> x.count(0));
        Edges.due("count", 0, Edges.inside(1, 4), x::count);
        Check.due("column 0", Make.INDEX, () -> x.power(0, 0));
        Check.due("candidate 0", Make.INDEX, () -> x.candidate(0, 0));
        Check.due("buffer", 0, x::clearInput);
        Edges.due("pending power of", 0, Edges.from0Below(4), c -> x.setPending(c, 1));
        Edges.due("mask of", false, Edges.from0Below(4), c -> x.setMasked(c, true));
    }

    // ---- promise 2

    @Sentence(promise = 2, says = "Begins anew with a number of channels, none of them masked.")
    static void noMaskOutlastsSetChannels() {
        for (int n : Edges.CHANNEL_NUMBERS) {
            BurstFinder x = Make.withChannels(16);
            x.strike(16);
            x.setChannels(n);
            Check.due(n + " channels: masked", 0, () -> x.count(3));
            Check.due(n + " channels: no mask comes back", 0, () -> {
                x.setChannels(16);
                return x.count(3);
            });
            Edges.due("mask of", false, Edges.from0Below(16), c -> x.setMasked(c, false));
        }
    }

    @Sentence(promise = 2, says = "There are no columns then, no column has been dropped, and the "
            + "pending column has only powers 0.")
    static void noColumnOutlastsSetChannels() {
        BurstFinder x = Make.empty(16, 50);
        Make.setAllPending(x, 9999);
        x.setChannels(16);
        Check.due("columns", 0, () -> x.count(1));
        Check.due("column 0", Make.INDEX, () -> x.power(0, 0));
        Check.due("dropped", 0, () -> x.count(2));
        Edges.due("pending power of", 0, Edges.from0Below(16), c -> x.setPending(c, 0));
        Make.addEmpty(x, 48);
        Check.due("dropped when it is full again", 0, () -> x.count(2));
        Check.due("one more column", 48, x::advance);
        Check.due("dropped then", 1, () -> x.count(2));
    }

    @Sentence(promise = 2, says = "There are no columns then, no column has been dropped, and the "
            + "pending column has only powers 0.")
    static void noSumOutlastsSetChannels() {
        BurstFinder x = Make.withBursts(10);
        x.find(0, 8);
        Check.due("there was a mean", true, () -> x.mean(0) > 0.0);
        x.setChannels(2);
        Edges.due("mean of slope", 0.0, Edges.from0Below(2), x::mean);
        Edges.due("sum of channel", 0, Edges.from0Below(2), x::channelSum);
        Check.due("line 0", Make.INDEX, () -> x.lineSum(0, 0, false));
        Check.due("no candidate in nothing", 0, () -> x.find(0, 8));
        Check.due("as if it were new", Make.withChannels(2).digest(), x::digest);
    }

    @Sentence(promise = 2, says = "The input buffer stays.")
    static void theBufferOutlastsSetChannels() {
        BurstFinder x = new BurstFinder();
        x.setChannels(8);
        Check.due("an empty one", 0, x::clearInput);
        Make.write(x, "9".repeat(63) + "Z");
        x.setChannels(16);
        Check.due("a full one is full", Make.STATE, () -> x.append('0'));
        Check.due("its columns", 4, x::load);
        Check.due("its last power", 35, () -> x.power(15, 3));
    }

    @Sentence(promise = 2, says = "- `channels`: 2, 4, 8 or 16")
    static void theFourNumbersOfChannels() {
        BurstFinder x = new BurstFinder();
        for (int n : Edges.CHANNEL_NUMBERS) {
            x.setChannels(n);
            Check.due("channels", n, () -> x.count(0));
            Check.due("the last channel", 0, () -> x.channelSum(n - 1));
            Check.due("behind it", Make.INDEX, () -> x.channelSum(n));
        }
    }

    @Sentence(promise = 2, says = "Returns the previous number of channels.")
    static void setChannelsReturnsThePreviousNumber() {
        BurstFinder x = new BurstFinder();
        Check.due("of a new object", 4, () -> x.setChannels(16));
        Check.due("a refused call", Make.ARGUMENT, () -> x.setChannels(3));
        Check.due("behind it", 16, () -> x.setChannels(16));
        Check.due("the same number", 16, () -> x.setChannels(2));
        Check.due("the least number", 2, () -> x.setChannels(4));
    }

    @Sentence(promise = 2,
            says = "Throws `IllegalArgumentException` if channels is none of these numbers")
    static void otherNumbersOfChannels() {
        BurstFinder x = Make.withCandidate();
        Edges.refused(x, "below 2:", Make.ARGUMENT, Edges.inside(-20, 1), x::setChannels);
        Edges.refused(x, "3:", Make.ARGUMENT, Edges.inside(3, 3), x::setChannels);
        Edges.refused(x, "5 to 7:", Make.ARGUMENT, Edges.inside(5, 7), x::setChannels);
        Edges.refused(x, "9 to 15:", Make.ARGUMENT, Edges.inside(9, 15), x::setChannels);
        Edges.refused(x, "above 16:", Make.ARGUMENT, Edges.inside(17, 33), x::setChannels);
        Edges.refused(x, "far off:", Make.ARGUMENT, Edges.outside(2, 16), x::setChannels);
    }

    // ---- promise 3

    @Sentence(promise = 3, says = "- `power`: the power, 0 to 9999")
    static void theLeastAndTheGreatestPendingPower() {
        BurstFinder x = new BurstFinder();
        x.setPending(0, 9999);
        x.setPending(3, 9999);
        x.setPending(3, 0);
        x.advance();
        Check.due("the greatest", 9999, () -> x.power(0, 0));
        Check.due("the least", 0, () -> x.power(3, 0));
    }

    @Sentence(promise = 3, says = "Returns the previous power there.")
    static void setPendingReturnsThePreviousPower() {
        BurstFinder x = new BurstFinder();
        Check.due("at first", 0, () -> x.setPending(3, 9999));
        Check.due("the greatest", 9999, () -> x.setPending(3, 9999));
        Check.due("a refused call", Make.ARGUMENT, () -> x.setPending(3, 10000));
        Check.due("behind it", 9999, () -> x.setPending(3, 1));
        Check.due("another channel", 0, () -> x.setPending(2, 1));
        x.advance();
        Check.due("after advance", 0, () -> x.setPending(3, 1));
    }

    @Sentence(promise = 3,
            says = "Throws `IndexOutOfBoundsException` if the channel does not exist")
    static void noSuchPendingChannel() {
        for (int n : Edges.CHANNEL_NUMBERS) {
            BurstFinder x = Make.withChannels(n);
            Edges.due("there is channel", 0, Edges.from0Below(n), c -> x.setPending(c, 5));
            Edges.refused(x, n + " channels, channel", Make.INDEX, Edges.outside(0, n - 1),
                    c -> x.setPending(c, 5));
        }
    }

    @Sentence(promise = 3, says = "Throws `IllegalArgumentException` if power is out of range")
    static void pendingPowerOutOfRange() {
        BurstFinder x = new BurstFinder();
        for (int channel : new int[] {0, 3}) {
            Edges.refused(x, "power", Make.ARGUMENT, Edges.outside(0, 9999),
                    power -> x.setPending(channel, power));
        }
    }

    // ---- promise 4

    @Sentence(promise = 4, says = "Appends the pending column to the data.")
    static void advanceWhenEmptyAndWhenFull() {
        BurstFinder x = Make.counted(48);
        Check.due("the first column", 1, () -> x.power(0, 0));
        Check.due("the 48th column", 48, () -> x.power(0, 47));
        x.setPending(0, 9999);
        x.setPending(1, 3);
        x.advance();
        Check.due("the 49th column", 9999, () -> x.power(0, 47));
        Check.due("its other channel", 3, () -> x.power(1, 47));
        Check.due("the one before it", 48, () -> x.power(0, 46));
        Check.due("the oldest one", 2, () -> x.power(0, 0));
    }

    @Sentence(promise = 4, says = "The pending column has only powers 0 then.")
    static void nothingIsPendingAfterAdvance() {
        for (int columns : new int[] {0, 48}) {
            BurstFinder x = Make.empty(16, columns);
            Make.setAllPending(x, 9999);
            x.advance();
            x.advance();
            int last = x.count(1) - 1;
            Edges.due(columns + " columns before, the next power of", 0, Edges.from0Below(16),
                    c -> x.power(c, last));
            Edges.due("pending power of", 0, Edges.from0Below(16), c -> x.setPending(c, 0));
        }
    }

    @Sentence(promise = 4, says = "Returns the number of columns that are kept.")
    static void advanceReturnsAtMost48() {
        BurstFinder x = new BurstFinder();
        for (int kept : Edges.inside(1, 48)) {
            Check.due("column " + kept, kept, x::advance);
        }
        Check.due("column 49", 48, x::advance);
        Check.due("column 50", 48, x::advance);
    }

    // ---- promise 5

    @Sentence(promise = 5, says = "Returns the new length of the buffer.")
    static void appendReturnsTheLength() {
        BurstFinder x = new BurstFinder();
        for (int length : Edges.inside(1, 64)) {
            Check.due("character " + length, length, () -> x.append('!'));
        }
        x.clearInput();
        Check.due("after clearInput", 1, () -> x.append('0'));
        x.append('0');
        Check.due("a refused call", Make.ARGUMENT, () -> x.append(0));
        Check.due("behind it", 3, () -> x.append('0'));
        x.append('0');
        x.load();
        Check.due("after load", 1, () -> x.append('0'));
    }

    @Sentence(promise = 5, says = "Throws `IllegalArgumentException` if code is not 32 to 126")
    static void appendRefusesOtherCodes() {
        BurstFinder x = new BurstFinder();
        Edges.refused(x, "code", Make.ARGUMENT, Edges.outside(32, 126), x::append);
        Edges.refused(x, "code", Make.ARGUMENT, Edges.inside(-1, 31), x::append);
        for (int code : Edges.inside(32, 126)) {
            x.clearInput();
            Check.due("code " + code, 1, () -> x.append(code));
        }
    }

    @Sentence(promise = 5,
            says = "Throws `IllegalStateException` if the buffer has 64 characters")
    static void appendRefusesWhenFull() {
        BurstFinder x = new BurstFinder();
        Make.write(x, "0".repeat(63));
        Check.due("the 64th character", 64, () -> x.append('1'));
        Edges.refused(x, "the 65th is", Make.STATE, Edges.inside(32, 126), x::append);
        Check.due("the 64th stays", 16, x::load);
        Check.due("its power", 1, () -> x.power(3, 15));
        Check.due("room again", 1, () -> x.append('2'));
    }

    // ---- promise 6

    @Sentence(promise = 6, says = "Clears the input buffer.")
    static void clearInputOfAFullBuffer() {
        BurstFinder x = new BurstFinder();
        Make.write(x, "!".repeat(64));
        x.clearInput();
        Check.due("no error is left", 0, x::firstError);
        Check.due("no column is left", Make.STATE, x::load);
        Make.write(x, "000A");
        Check.due("what comes then stands alone", 1, x::load);
        Check.due("its last power", 10, () -> x.power(3, 0));
    }

    @Sentence(promise = 6, says = "Returns the length that it had.")
    static void clearInputReturnsTheLength() {
        BurstFinder x = new BurstFinder();
        Check.due("of an empty buffer", 0, x::clearInput);
        Make.write(x, "0".repeat(64));
        Check.due("of a full buffer", 64, x::clearInput);
        Check.due("of a cleared buffer", 0, x::clearInput);
        x.append(' ');
        Check.due("of one character", 1, x::clearInput);
        Make.addColumns(x, "1234");
        Check.due("of a loaded buffer", 0, x::clearInput);
    }

    // ---- promise 7

    @Sentence(promise = 7, says = "Finds the first character of the buffer that is not a power.")
    static void theFirstErrorOfSeveral() {
        for (char bad : " /:@[`az~".toCharArray()) {
            BurstFinder x = new BurstFinder();
            x.append(bad);
            Check.due("the only one: " + bad, 0, x::firstError);
            x.clearInput();
            Make.write(x, "09AZ" + bad + "0" + bad);
            Check.due("behind the powers: " + bad, 4, x::firstError);
        }
    }

    @Sentence(promise = 7, says = "Returns its index; the length of the buffer if there is none.")
    static void noErrorInAnEmptyOrAFullBuffer() {
        BurstFinder x = new BurstFinder();
        Check.due("empty", 0, x::firstError);
        Make.write(x, "0");
        Check.due("one power", 1, x::firstError);
        Make.write(x, "Z".repeat(62));
        Check.due("63 powers", 63, x::firstError);
        x.append('9');
        Check.due("a full buffer of powers", 64, x::firstError);
        x.clearInput();
        Make.write(x, "Z".repeat(63) + "z");
        Check.due("an error at the very end", 63, x::firstError);
    }

    // ---- promise 8

    @Sentence(promise = 8,
            says = "Appends the columns in the buffer to the data, and clears the buffer.")
    static void loadWhenTheDataIsNearlyFull() {
        BurstFinder x = Make.counted(47);
        Make.write(x, "YZ".repeat(32));
        x.load();
        Check.due("kept", 48, () -> x.count(1));
        Check.due("dropped", 31, () -> x.count(2));
        Check.due("the oldest", 32, () -> x.power(0, 0));
        Check.due("the last of before", 47, () -> x.power(0, 15));
        Check.due("the first that was loaded", 34, () -> x.power(0, 16));
        Check.due("the last that was loaded", 35, () -> x.power(1, 47));
        Check.due("the buffer", 0, x::clearInput);
    }

    @Sentence(promise = 8, says = "The pending column stays.")
    static void loadLeavesWhatIsPending() {
        BurstFinder x = Make.empty(16, 48);
        Make.setAllPending(x, 9999);
        Make.addColumns(x, "0".repeat(64));
        Edges.due("pending power of", 9999, Edges.from0Below(16), c -> x.setPending(c, 9999));
        Check.due("loaded, not pending", 0, () -> x.power(0, 47));
    }

    @Sentence(promise = 8, says = "Returns the number of columns that were appended.")
    static void loadCountsDroppedColumnsToo() {
        BurstFinder x = Make.withChannels(2);
        Make.write(x, "12");
        Check.due("one column", 1, x::load);
        Make.write(x, "12".repeat(32));
        Check.due("a full buffer", 32, x::load);
        Make.write(x, "12".repeat(32));
        Check.due("more than there is room for", 32, x::load);
        Check.due("kept", 48, () -> x.count(1));
        for (int n : Edges.CHANNEL_NUMBERS) {
            x.setChannels(n);
            Make.write(x, "0".repeat(64));
            Check.due("a full buffer for " + n + " channels", 64 / n, x::load);
        }
    }

    private static final String LOAD_REFUSES = "Throws `IllegalStateException` if the buffer is "
            + "empty, has a character that is not a power, or does not consist of whole columns";

    private static void dueLoadRefused(BurstFinder x, String text) {
        x.clearInput();
        Make.write(x, text);
        long before = x.digest();
        Check.due("load of \"" + text + "\"", Make.STATE, x::load);
        Check.due("the state is as before", before, x::digest);
    }

    @Sentence(promise = 8, says = LOAD_REFUSES)
    static void loadOfAnEmptyBuffer() {
        dueLoadRefused(new BurstFinder(), "");
        dueLoadRefused(Make.empty(16, 48), "");
        BurstFinder x = Make.loaded(4, "1234");
        Check.due("a second time", Make.STATE, x::load);
    }

    @Sentence(promise = 8, says = LOAD_REFUSES)
    static void loadOfWhatIsNoPower() {
        BurstFinder x = new BurstFinder();
        for (char bad : " /:@[`az~".toCharArray()) {
            dueLoadRefused(x, bad + "234");
            dueLoadRefused(x, "1234123" + bad);
        }
        BurstFinder y = Make.withCandidate();
        dueLoadRefused(y, "0".repeat(63) + "!");
    }

    @Sentence(promise = 8, says = LOAD_REFUSES)
    static void loadOfPartsOfColumns() {
        for (int n : Edges.CHANNEL_NUMBERS) {
            BurstFinder x = Make.withChannels(n);
            dueLoadRefused(x, "1");
            dueLoadRefused(x, "1".repeat(n - 1));
            dueLoadRefused(x, "1".repeat(n + 1));
            dueLoadRefused(x, "1".repeat(63));
        }
        dueLoadRefused(Make.withCandidate(), "001");
    }

    // ---- promise 9

    @Sentence(promise = 9, says = "Adds power along a straight line: to the powers of the cells "
            + "(channel c, column t + straight offset of the slope and c), for all channels, "
            + "masked or not.")
    static void injectFromTheFirstToTheLastColumn() {
        BurstFinder x = Make.empty(16, 16);
        x.strike(16);
        x.inject(15, 0, 7);
        Edges.due("the steepest line at", 7, Edges.from0Below(16), c -> x.power(c, c));
        Edges.due("power in all of", 7, Edges.from0Below(16), x::channelSum);
        BurstFinder y = Make.empty(16, 6);
        y.inject(5, 0, 3);
        Check.due("not where the tree bends", 0, () -> y.power(5, 1));
        Check.due("but straight", 3, () -> y.power(5, 2));
        Check.due("the last column", 3, () -> y.power(15, 5));
    }

    @Sentence(promise = 9, says = "A power that would be greater than 9999 becomes 9999.")
    static void injectedPowerIsAtMost9999() {
        BurstFinder x = Make.series(9998, 9997, 9999, 1, 0);
        x.inject(0, 0, 1);
        Check.due("9998 + 1", 9999, () -> x.power(0, 0));
        x.inject(0, 1, 3);
        Check.due("9997 + 3", 9999, () -> x.power(0, 1));
        x.inject(0, 2, 9999);
        Check.due("9999 + 9999", 9999, () -> x.power(0, 2));
        x.inject(0, 3, 9999);
        Check.due("1 + 9999", 9999, () -> x.power(0, 3));
        Check.due("0 + 9999", 9999, () -> x.power(1, 3));
        x.inject(0, 4, 9998);
        Check.due("0 + 9998", 9998, () -> x.power(0, 4));
    }

    @Sentence(promise = 9, says = "- `amplitude`: the power to add, 1 to 9999")
    static void theLeastAndTheGreatestAmplitude() {
        BurstFinder x = Make.empty(4, 2);
        Check.due("the least", 4, () -> x.inject(1, 0, 1));
        Check.due("the greatest", 2 * 9999 + 2 * 9998, () -> x.inject(0, 1, 9999));
        Check.due("on nothing", 9999, () -> x.power(0, 1));
        Check.due("on 1", 9999, () -> x.power(3, 1));
    }

    @Sentence(promise = 9, says = "Returns the sum of what was really added.")
    static void injectReturnsWhatWasAdded() {
        BurstFinder x = Make.withChannels(4);
        x.setPending(1, 9999);
        x.setPending(2, 9998);
        x.setPending(3, 9900);
        x.advance();
        Check.due("cut off in three channels", 100 + 0 + 1 + 99, () -> x.inject(0, 0, 100));
        Check.due("one channel has room", 9899, () -> x.inject(0, 0, 9999));
        Check.due("no channel has room", 0, () -> x.inject(0, 0, 9999));
        BurstFinder y = Make.empty(16, 1);
        Check.due("the most there is", 16 * 9999, () -> y.inject(0, 0, 9999));
    }

    private static final String INJECT_REFUSES = "Throws `IndexOutOfBoundsException` if there is no "
            + "such slope, or column t or column t + slope does not exist";

    @Sentence(promise = 9, says = INJECT_REFUSES)
    static void injectWithoutSuchASlope() {
        for (int n : Edges.CHANNEL_NUMBERS) {
            BurstFinder x = Make.empty(n, 40);
            Edges.due("there is slope", n, Edges.from0Below(n), d -> x.inject(d, 0, 1));
            Edges.refused(x, n + " channels, slope", Make.INDEX, Edges.outside(0, n - 1),
                    d -> x.inject(d, 1, 1));
        }
    }

    @Sentence(promise = 9, says = INJECT_REFUSES)
    static void injectWithoutSuchAColumn() {
        BurstFinder none = new BurstFinder();
        Edges.refused(none, "no columns, column", Make.INDEX, Edges.inside(-1, 1),
                t -> none.inject(0, t, 1));
        BurstFinder x = Make.empty(4, 48);
        Check.due("the first column", 4, () -> x.inject(0, 0, 1));
        Check.due("the last column", 4, () -> x.inject(0, 47, 1));
        Edges.refused(x, "column", Make.INDEX, Edges.outside(0, 47), t -> x.inject(0, t, 1));
        Edges.refused(x, "column t + slope exists, column", Make.INDEX, Edges.inside(-3, -1),
                t -> x.inject(3, t, 1));
    }

    @Sentence(promise = 9, says = INJECT_REFUSES)
    static void injectBeyondTheLastColumn() {
        BurstFinder x = Make.empty(4, 5);
        Check.due("the last line", 4, () -> x.inject(3, 1, 1));
        Edges.refused(x, "column t exists, column", Make.INDEX, Edges.inside(2, 4),
                t -> x.inject(3, t, 1));
        Edges.refused(x, "far off, column", Make.INDEX, Edges.outside(0, 4),
                t -> x.inject(3, t, 1));
        BurstFinder few = Make.empty(4, 3);
        Edges.refused(few, "fewer columns than the slope needs, column", Make.INDEX,
                Edges.inside(0, 2), t -> few.inject(3, t, 1));
    }

    @Sentence(promise = 9,
            says = "Throws `IllegalArgumentException` if amplitude is out of range")
    static void amplitudeOutOfRange() {
        BurstFinder x = Make.withCandidate();
        Edges.refused(x, "amplitude", Make.ARGUMENT, Edges.outside(1, 9999),
                a -> x.inject(1, 2, a));
    }

    // ---- promise 10

    private static final String POWER_REFUSES =
            "Throws `IndexOutOfBoundsException` if the channel or the column does not exist";

    @Sentence(promise = 10, says = POWER_REFUSES)
    static void powerWithoutSuchAChannel() {
        for (int n : Edges.CHANNEL_NUMBERS) {
            BurstFinder x = Make.empty(n, 2);
            Edges.due("there is channel", 0, Edges.from0Below(n), c -> x.power(c, 1));
            Edges.refused(x, n + " channels, channel", Make.INDEX, Edges.outside(0, n - 1),
                    c -> x.power(c, 1));
        }
    }

    @Sentence(promise = 10, says = POWER_REFUSES)
    static void powerWithoutSuchAColumn() {
        for (int columns : new int[] {1, 2, 47, 48}) {
            BurstFinder x = Make.counted(columns);
            Check.due("the first column", 1, () -> x.power(0, 0));
            Check.due("the last column", columns, () -> x.power(0, columns - 1));
            Edges.refused(x, columns + " columns, column", Make.INDEX,
                    Edges.outside(0, columns - 1), t -> x.power(0, t));
        }
        BurstFinder none = new BurstFinder();
        Check.due("no columns", Make.INDEX, () -> none.power(0, 0));
        BurstFinder full = Make.counted(49);
        Check.due("the 49th is not number 48", Make.INDEX, () -> full.power(0, 48));
    }

    // ---- promise 11

    @Sentence(promise = 11, says = "- `what`: 0 for the number of channels, 1 for the number of "
            + "columns that are kept, 2 for the number of columns that were dropped, 3 for the "
            + "number of masked channels, 4 for the number of candidates")
    static void countsAtTheirGreatest() {
        BurstFinder x = Make.withBursts(10);
        x.find(0, 1);
        Check.due("channels", 2, () -> x.count(0));
        Check.due("columns, all that fit", 48, () -> x.count(1));
        Check.due("dropped, none", 0, () -> x.count(2));
        Check.due("masked, none", 0, () -> x.count(3));
        Check.due("candidates, all that fit", 8, () -> x.count(4));
        BurstFinder y = Make.empty(16, 148);
        y.strike(16);
        Check.due("the most channels", 16, () -> y.count(0));
        Check.due("columns behind many", 48, () -> y.count(1));
        Check.due("dropped, many", 100, () -> y.count(2));
        Check.due("all masked", 16, () -> y.count(3));
        Check.due("candidates, none", 0, () -> y.count(4));
    }

    @Sentence(promise = 11, says = "Throws `IllegalArgumentException` if what is not 0 to 4")
    static void noSuchCount() {
        BurstFinder x = Make.withCandidate();
        Edges.refused(x, "count", Make.ARGUMENT, Edges.outside(0, 4), x::count);
    }
}
