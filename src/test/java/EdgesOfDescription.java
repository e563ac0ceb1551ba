/** The boundary cases of the chapter 'Description', a test for each sentence. */
final class EdgesOfDescription {
    private EdgesOfDescription() {
    }

    // ---- data

    @Sentence(promise = 0, says = "There are 2, 4, 8 or 16 channels, numbered from 0.")
    static void theFirstAndTheLastChannel() {
        for (int n : Edges.CHANNEL_NUMBERS) {
            BurstFinder x = Make.empty(n, 1);
            Edges.due("there is channel", 0, Edges.from0Below(n), c -> x.power(c, 0));
            Check.due("none before the first", Make.INDEX, () -> x.power(-1, 0));
            Check.due("none behind the last", Make.INDEX, () -> x.power(n, 0));
        }
    }

    @Sentence(promise = 0, says = "A column has a power from 0 to 9999 for each channel.")
    static void theLeastAndTheGreatestPowers() {
        for (int n : Edges.CHANNEL_NUMBERS) {
            BurstFinder x = Make.empty(n, 1);
            Make.setAllPending(x, 9999);
            x.advance();
            x.inject(0, 1, 9999);
            Edges.due(n + " channels, least power of", 0, Edges.from0Below(n), c -> x.power(c, 0));
            Edges.due(n + " channels, greatest power of", 9999, Edges.from0Below(n),
                    c -> x.power(c, 1));
        }
    }

    @Sentence(promise = 0,
            says = "At most 48 columns are kept; they are numbered from 0, the oldest first.")
    static void atMost48Columns() {
        for (int columns : new int[] {47, 48, 49, 97}) {
            BurstFinder x = Make.counted(columns);
            int kept = Math.min(columns, 48);
            Check.due(columns + " came: kept", kept, () -> x.count(1));
            Check.due(columns + " came: oldest", columns - kept + 1, () -> x.power(0, 0));
            Check.due(columns + " came: newest", columns, () -> x.power(0, kept - 1));
            Check.due(columns + " came: behind it", Make.INDEX, () -> x.power(0, kept));
        }
    }

    private static final String DROPPING = "When a column comes and 48 are kept already, the oldest "
            + "one is dropped, so that the numbers of the others decrease by 1.";

    @Sentence(promise = 0, says = DROPPING)
    static void advanceDropsTheOldest() {
        BurstFinder x = Make.counted(47);
        x.advance();
        Check.due("room for the 48th: dropped", 0, () -> x.count(2));
        Check.due("room for the 48th: column 0", 1, () -> x.power(0, 0));
        x.advance();
        Check.due("no room for the 49th: dropped", 1, () -> x.count(2));
        for (int t : Edges.from0Below(46)) {
            Check.due("column " + t, t + 2, () -> x.power(0, t));
        }
        Check.due("the 48th", 0, () -> x.power(0, 46));
    }

    @Sentence(promise = 0, says = DROPPING)
    static void loadDropsTheOldest() {
        BurstFinder x = Make.counted(47);
        Make.addColumns(x, "AB");
        Check.due("room for the 48th: dropped", 0, () -> x.count(2));
        Make.addColumns(x, "CDEF");
        Check.due("no room for two more: dropped", 2, () -> x.count(2));
        Check.due("the oldest", 3, () -> x.power(0, 0));
        Check.due("the 48th", 10, () -> x.power(0, 45));
        Check.due("the 49th", 12, () -> x.power(0, 46));
        Check.due("the 50th", 14, () -> x.power(0, 47));
    }

    @Sentence(promise = 0, says = "A channel can be masked.")
    static void allChannelsCanBeMasked() {
        for (int n : Edges.CHANNEL_NUMBERS) {
            BurstFinder x = Make.withChannels(n);
            Make.mask(x, Edges.from0Below(n));
            Check.due("all of " + n, n, () -> x.count(3));
        }
    }

    @Sentence(promise = 0, says = "There is a pending column, in which powers can be set before it "
            + "is appended to the data.")
    static void whatIsPendingIsNoData() {
        BurstFinder x = Make.counted(48);
        Make.setAllPending(x, 9999);
        Check.due("columns", 48, () -> x.count(1));
        Check.due("dropped", 0, () -> x.count(2));
        Check.due("the last column", 48, () -> x.lineSum(0, 47, false));
        Check.due("the channel's sum", 48 * 49 / 2, () -> x.channelSum(0));
        BurstFinder none = new BurstFinder();
        none.setPending(0, 9999);
        Check.due("no column yet", Make.INDEX, () -> none.power(0, 0));
    }

    // ---- lines

    @Sentence(promise = 0, says = "A slope is a number from 0 to the number of channels minus 1.")
    static void theLeastAndTheGreatestSlope() {
        for (int n : Edges.CHANNEL_NUMBERS) {
            BurstFinder x = Make.withChannels(n);
            Edges.due("there is slope", 0.0, Edges.from0Below(n), x::mean);
            Check.due("none below 0", Make.INDEX, () -> x.mean(-1));
            Check.due("not the number of channels", Make.INDEX, () -> x.mean(n));
        }
    }

    @Sentence(promise = 0, says = "In a block of 1 channel the offset is 0.")
    static void theFirstChannelHasNoOffset() {
        for (int n : Edges.CHANNEL_NUMBERS) {
            BurstFinder x = Make.withChannels(n);
            Edges.due(n + " channels, slope", 0, Edges.from0Below(n), d -> x.offset(d, 0, false));
        }
    }

    @Sentence(promise = 0, says = "In a block of m channels (m is 2 or more) and for a slope d from 0 "
            + "to m - 1, let e be d / 2, rounded down; the channels of the first half of the block "
            + "have the offsets of slope e in a block of m / 2 channels, and so have the channels of "
            + "the second half, but there d - e is added.")
    static void theHalvesMeetInTheMiddle() {
        for (int n : Edges.CHANNEL_NUMBERS) {
            BurstFinder x = Make.withChannels(n);
            for (int d : Edges.from0Below(n)) {
                Check.due(n + " channels, slope " + d + ", end of the first half", d / 2,
                        () -> x.offset(d, n / 2 - 1, false));
                Check.due(n + " channels, slope " + d + ", begin of the second half", d - d / 2,
                        () -> x.offset(d, n / 2, false));
                Check.due(n + " channels, slope " + d + ", last channel", d,
                        () -> x.offset(d, n - 1, false));
            }
        }
    }

    @Sentence(promise = 0, says = "The tree offset of a slope and a channel is that in the block of "
            + "all channels.")
    static void theFlattestAndTheSteepestTree() {
        for (int n : Edges.CHANNEL_NUMBERS) {
            BurstFinder x = Make.withChannels(n);
            for (int c : Edges.from0Below(n)) {
                Check.due(n + " channels, slope 0, channel " + c, 0, () -> x.offset(0, c, false));
                Check.due(n + " channels, steepest, channel " + c, c,
                        () -> x.offset(n - 1, c, false));
            }
        }
    }

    @Sentence(promise = 0, says = "The straight offset of slope d and channel c, for n channels, is "
            + "d * c / (n - 1), rounded to the nearest integer, and up if it lies in the middle "
            + "between two.")
    static void straightOffsetsNextToTheMiddle() {
        // n - 1 is odd, so that none lies in the middle: these are the nearest ones below and above.
        for (int n : new int[] {4, 8, 16}) {
            BurstFinder x = Make.withChannels(n);
            int below = (n - 2) / 2;
            Check.due(n + " channels, below a half", 0, () -> x.offset(1, below, true));
            Check.due(n + " channels, above a half", 1, () -> x.offset(1, below + 1, true));
            Check.due(n + " channels, slope below a half", 0, () -> x.offset(below, 1, true));
            Check.due(n + " channels, slope above a half", 1, () -> x.offset(below + 1, 1, true));
            Check.due(n + " channels, the last", n - 1, () -> x.offset(n - 1, n - 1, true));
            Check.due(n + " channels, the last but one", n - 2, () -> x.offset(n - 1, n - 2, true));
        }
        BurstFinder x = Make.withChannels(16);
        Check.due("112 / 15", 7, () -> x.offset(14, 8, true));
        Check.due("98 / 15", 7, () -> x.offset(14, 7, true));
        Check.due("96 / 15", 6, () -> x.offset(8, 12, true));
    }

    @Sentence(promise = 0, says = "The line of slope d from column t consists of the cells (channel "
            + "c, column t + tree offset of d and c), for all channels.")
    static void theCellsAtBothEndsOfALine() {
        for (int n : Edges.CHANNEL_NUMBERS) {
            BurstFinder x = Make.empty(n, 0);
            x.setPending(0, 100);
            x.advance();
            Make.addEmpty(x, n - 2);
            x.setPending(n - 1, 9999);
            x.advance();
            Check.due(n + " channels, both ends", 10099, () -> x.lineSum(n - 1, 0, false));
            Check.due(n + " channels, the first end", 100, () -> x.lineSum(0, 0, false));
            Check.due(n + " channels, the last end", 9999, () -> x.lineSum(0, n - 1, false));
        }
    }

    @Sentence(promise = 0, says = "It exists if t is at least 0 and column t + d exists.")
    static void theLinesThatExist() {
        for (int n : Edges.CHANNEL_NUMBERS) {
            BurstFinder x = Make.empty(n, 20);
            int last = 19 - (n - 1);
            Check.due("t = 0", 0, () -> x.lineSum(n - 1, 0, false));
            Check.due("t + d is the last", 0, () -> x.lineSum(n - 1, last, false));
            Check.due("t + d is too large", Make.INDEX, () -> x.lineSum(n - 1, last + 1, false));
            Edges.due("t is negative:", Make.INDEX, Edges.inside(1 - n, -1),
                    t -> x.lineSum(n - 1, t, false));
            Edges.due("t + d turns round:", Make.INDEX,
                    Edges.inside(Integer.MAX_VALUE - n, Integer.MAX_VALUE - 1),
                    t -> x.lineSum(n - 1, t, false));
        }
    }

    @Sentence(promise = 0, says = "The line sum is the sum of the powers of its cells in channels "
            + "that are not masked.")
    static void lineSumsFromNoneToAllChannels() {
        BurstFinder x = Make.empty(16, 1);
        x.inject(0, 0, 9999);
        for (int masked : Edges.from0Below(16)) {
            Check.due(masked + " are masked", (16 - masked) * 9999, () -> x.lineSum(0, 0, false));
            x.setMasked(masked, true);
        }
        Check.due("all are masked", 0, () -> x.lineSum(0, 0, false));
        x.setMasked(0, false);
        Check.due("the first is unmasked", 9999, () -> x.lineSum(0, 0, false));
    }

    @Sentence(promise = 0, says = "The straight sum is the same with straight offsets.")
    static void straightSumsFromNoneToAllChannels() {
        BurstFinder x = Make.empty(16, 6);
        x.inject(5, 0, 9999);
        Check.due("all cells", 16 * 9999, () -> x.lineSum(5, 0, true));
        Check.due("the tree misses some", false,
                () -> x.lineSum(5, 0, false) == 16 * 9999);
        Make.mask(x, Edges.from0Below(15));
        Check.due("the last channel alone", 9999, () -> x.lineSum(5, 0, true));
        x.setMasked(15, true);
        Check.due("no channel", 0, () -> x.lineSum(5, 0, true));
        Check.due("t is negative", Make.INDEX, () -> x.lineSum(5, -1, true));
        Check.due("t + d is too large", Make.INDEX, () -> x.lineSum(5, 1, true));
    }

    // ---- boxes

    @Sentence(promise = 0, says = "A box of slope d from column t with the width w, 1 to 8, consists "
            + "of the lines of slope d from the columns t, t + 1, ..., t + w - 1.")
    static void theLinesAtBothEndsOfABox() {
        BurstFinder x = Make.series(1, 2, 4, 8, 16, 32, 64, 128, 256, 512);
        Check.due("width 1", 2, () -> x.boxSum(0, 1, 1));
        Check.due("width 8", 510, () -> x.boxSum(0, 1, 8));
        Check.due("width 8 of slope 1", 510, () -> x.boxSum(1, 1, 8));
        Check.due("width 0", Make.ARGUMENT, () -> x.boxSum(0, 1, 0));
        Check.due("width 9", Make.ARGUMENT, () -> x.boxSum(0, 1, 9));
    }

    @Sentence(promise = 0, says = "It exists if all these lines exist.")
    static void theBoxesThatExist() {
        BurstFinder x = Make.empty(2, 8);
        Check.due("just enough columns", 0, () -> x.boxSum(0, 0, 8));
        Check.due("the last line does not exist", Make.INDEX, () -> x.boxSum(0, 1, 8));
        Check.due("nor with a slope", Make.INDEX, () -> x.boxSum(1, 0, 8));
        Check.due("it does if it is less wide", 0, () -> x.boxSum(1, 0, 7));
        Edges.due("the first line does not exist:", Make.INDEX, Edges.inside(-8, -1),
                t -> x.boxSum(0, t, 8));
        Edges.due("t + w turns round:", Make.INDEX,
                Edges.inside(Integer.MAX_VALUE - 9, Integer.MAX_VALUE - 1),
                t -> x.boxSum(1, t, 8));
    }

    @Sentence(promise = 0, says = "The box sum is the sum of their line sums.")
    static void theLeastAndTheGreatestBoxSum() {
        BurstFinder x = Make.empty(16, 8);
        Check.due("without power", 0, () -> x.boxSum(0, 0, 8));
        for (int t : Edges.from0Below(8)) {
            x.inject(0, t, 9999);
        }
        Check.due("as much as there can be", 8 * 16 * 9999, () -> x.boxSum(0, 0, 8));
        x.strike(16);
        Check.due("all channels are masked", 0, () -> x.boxSum(0, 0, 8));
    }

    @Sentence(promise = 0, says = "Let N be the number of all lines of slope d that exist, S the sum "
            + "of their line sums, Q the sum of the squares of their line sums, v = N * Q - S * S, "
            + "and e = N * (box sum) - w * S.")
    static void scoresOfTheFewestAndTheMostLines() {
        Check.due("N = 1", 0, () -> Make.series(9999).score(0, 0, 1));
        // N = 2: S = 1, Q = 1, v = 1, e = 1.
        Check.due("N = 2", 1000, () -> Make.series(0, 1).score(0, 1, 1));
        BurstFinder x = Make.empty(16, 48);
        x.inject(0, 47, 9999);
        Check.due("N = 48, one line", 47000, () -> x.score(0, 47, 1));
        for (int t : Edges.inside(40, 46)) {
            x.inject(0, t, 9999);
        }
        Check.due("N = 48, the greatest e", 40000, () -> x.score(0, 40, 8));
        BurstFinder y = Make.empty(16, 17);
        y.inject(15, 1, 9999);
        Check.due("N = 2, the greatest slope", 1000, () -> y.score(15, 1, 1));
    }

    private static final String SCORE = "The score is 1000 * e * e / (w * v), rounded down, if e and "
            + "v are greater than 0; otherwise it is 0.";

    @Sentence(promise = 0, says = SCORE)
    static void scoresAreRoundedDown() {
        // N = 4, S = 8, Q = 34, v = 72.
        BurstFinder x = Make.series(0, 3, 5, 0);
        Check.due("222.2", 222, () -> x.score(0, 1, 1));
        Check.due("1777.8", 1777, () -> x.score(0, 1, 2));
        // N = 4, S = 13333, e = 3: less than 1 is left of it.
        BurstFinder y = Make.series(9999, 3334, 0, 0);
        Check.due("0.00003", 0, () -> y.score(0, 1, 1));
    }

    @Sentence(promise = 0, says = SCORE)
    static void scoresWithoutExcess() {
        BurstFinder x = Make.series(0, 3, 5, 0);
        Check.due("e = 0", 0, () -> x.score(0, 0, 4));
        Check.due("e = -8", 0, () -> x.score(0, 0, 1));
        Check.due("e = -16, w = 3", 0, () -> Make.series(9, 0, 0, 0, 1).score(0, 1, 3));
    }

    @Sentence(promise = 0, says = SCORE)
    static void scoresWithoutSpread() {
        Check.due("all lines are equal", 0, () -> Make.series(7, 7, 7, 7).score(0, 1, 2));
        Check.due("all lines are empty", 0, () -> Make.empty(16, 48).score(15, 0, 8));
        Check.due("a single line", 0, () -> Make.series(3, 5).score(1, 0, 1));
        BurstFinder masked = Make.series(0, 9, 0);
        masked.setMasked(0, true);
        Check.due("all power is masked", 0, () -> masked.score(0, 1, 1));
    }

    @Sentence(promise = 0,
            says = "The span of a box consists of the columns from t to t + w - 1 + d.")
    static void theFirstAndTheLastColumnOfASpan() {
        BurstFinder x = Make.steepAndBroad(48, 10);
        x.find(0, 8);
        Check.due("the box", "15 10 8 25000", () -> Edges.box(x, 0));
        Check.due("before t", BurstFinder.NONE, () -> x.candidateAt(9));
        Check.due("t", 0, () -> x.candidateAt(10));
        Check.due("t + w - 1 + d", 0, () -> x.candidateAt(32));
        Check.due("behind it", BurstFinder.NONE, () -> x.candidateAt(33));
    }

    private static final String RANKING = "Boxes are ranked by their scores, the greatest first; "
            + "boxes with equal scores are ranked by their slopes, then by their columns, then by "
            + "their widths, the least first.";

    private static void dueFirst(String first, int slope, int column, int width, int... powers) {
        BurstFinder x = Make.series(powers);
        x.find(0, 8);
        Check.due("the first", first, () -> Edges.box(x, 0));
        Check.due("the other's score", x.candidate(0, 3), () -> x.score(slope, column, width));
    }

    @Sentence(promise = 0, says = RANKING)
    static void theGreatestScoreIsFirst() {
        BurstFinder x = Make.series(0, 4, 0, 0, 5, 0);
        x.find(0, 1);
        Check.due("the first", 4, () -> x.candidate(0, 1));
        Check.due("the second", 1, () -> x.candidate(1, 1));
        Check.due("their scores", true, () -> x.candidate(0, 3) > x.candidate(1, 3));
    }

    @Sentence(promise = 0, says = RANKING)
    static void ofEqualScoresTheLeastSlope() {
        dueFirst("0 5 3 1333", 1, 3, 1, 0, 2, 2, 3, 1, 3, 2, 3);
        dueFirst("0 1 2 1000", 1, 1, 1, 0, 1, 1);
    }

    @Sentence(promise = 0, says = RANKING)
    static void ofEqualScoresAndSlopesTheLeastColumn() {
        dueFirst("0 1 4 1800", 0, 4, 1, 0, 2, 2, 2, 3, 0);
        dueFirst("0 1 1 2000", 0, 4, 1, 0, 4, 0, 0, 4, 0);
    }

    @Sentence(promise = 0, says = RANKING)
    static void ofEqualScoresSlopesAndColumnsTheLeastWidth() {
        dueFirst("0 2 1 1421", 0, 2, 4, 0, 0, 3, 1, 3, 2);
    }

    // ---- candidates

    private static final String CANDIDATES = "Candidates are found one after the other: each one is "
            + "the first box in this ranking of all boxes whose score is at least the threshold and "
            + "not 0, whose width is at most a greatest width, and whose span has no column in "
            + "common with the span of an earlier candidate.";

    @Sentence(promise = 0, says = CANDIDATES)
    static void theThresholdItselfIsEnough() {
        // N = 8, S = 14, Q = 106, v = 652; e = 58 and e = 26.
        BurstFinder x = Make.series(0, 9, 0, 0, 5, 0, 0, 0);
        Check.due("the lower score", 2, () -> x.find(1036, 1));
        Check.due("1 more", 1, () -> x.find(1037, 1));
        Check.due("the greater score", 1, () -> x.find(5159, 1));
        Check.due("1 more than that", 0, () -> x.find(5160, 1));
    }

    @Sentence(promise = 0, says = CANDIDATES)
    static void noCandidateHasTheScore0() {
        Check.due("e = 0 or less", 0, () -> Make.series(7, 7, 7, 7).find(0, 8));
        BurstFinder x = Make.series(9999, 3334, 0, 0);
        Check.due("e > 0, but nothing is left of it", 1, () -> x.find(0, 1));
        Check.due("the one that is found", 0, () -> x.candidate(0, 1));
    }

    @Sentence(promise = 0, says = CANDIDATES)
    static void noCandidateIsWider() {
        int[] powers = new int[30];
        for (int i = 10; i < 20; i++) {
            powers[i] = 6;
        }
        BurstFinder x = Make.series(powers);
        Check.due("the widest, and the rest of the burst", 2, () -> x.find(0, 8));
        Check.due("the widest", "0 10 8 16000", () -> Edges.box(x, 0));
        Check.due("the rest", "0 18 2 4000", () -> Edges.box(x, 1));
        x.find(0, 7);
        Check.due("of width 7", "0 10 7 14000", () -> Edges.box(x, 0));
        x.find(0, 1);
        Check.due("of width 1", "0 10 1 2000", () -> Edges.box(x, 0));
    }

    @Sentence(promise = 0, says = CANDIDATES)
    static void candidatesInTheFirstAndTheLastColumn() {
        int[] powers = new int[48];
        powers[0] = 7;
        powers[47] = 9;
        BurstFinder x = Make.series(powers);
        // Each slope meets the first burst, and slope 1 meets it alone: it ranks before the last.
        Check.due("found", 2, () -> x.find(0, 1));
        Check.due("the first column", "1 0 1 46000", () -> Edges.box(x, 0));
        Check.due("the last column", 47, () -> x.candidate(1, 1));
        Check.due("found again, over what was found before", 2, () -> x.find(0, 1));
        BurstFinder y = Make.series(0, 0, 0, 0, 0, 0, 9);
        Check.due("only in the last column", 1, () -> y.find(0, 8));
        Check.due("the narrow box", "0 6 1 6000", () -> Edges.box(y, 0));
        BurstFinder z = Make.loaded(2, "00", "00", "00", "00", "00", "50", "09");
        Check.due("a span up to the last column takes it from others", 1, () -> z.find(0, 1));
        Check.due("the steep box", "1 5 1 5000", () -> Edges.box(z, 0));
    }

    @Sentence(promise = 0, says = CANDIDATES)
    static void spansMayTouch() {
        BurstFinder x = Make.series(0, 9, 5, 0, 0, 0, 0, 0);
        Check.due("next to one another", 2, () -> x.find(0, 1));
        Check.due("the first", "0 1 1 5159", () -> Edges.box(x, 0));
        Check.due("behind it", "0 2 1 1036", () -> Edges.box(x, 1));
        BurstFinder y = Make.series(0, 5, 9, 0, 0, 0, 0, 0);
        Check.due("next to one another, turned", 2, () -> y.find(0, 1));
        Check.due("before it", "0 1 1 1036", () -> Edges.box(y, 1));
    }

    @Sentence(promise = 0, says = CANDIDATES)
    static void spansHaveNoColumnInCommon() {
        // The box of slope 1 from column 3 has 18; it shares column 3 with that of slope 1 from 2,
        // which has 4, and with that of slope 0, and column 4 with that of slope 0 and of slope 1.
        BurstFinder x = Make.loaded(2, "00", "00", "00", "94", "59", "00", "00", "00", "00", "00");
        Check.due("scores that would do", true, () -> x.score(1, 2, 1) > 0
                && x.score(0, 3, 1) > 0 && x.score(0, 4, 1) > 0 && x.score(1, 4, 1) > 0);
        Check.due("found", 1, () -> x.find(0, 1));
        Check.due("the box", "1 3 1 7130", () -> Edges.box(x, 0));
    }

    @Sentence(promise = 0, says = "At most 8 candidates are found.")
    static void atMost8Candidates() {
        for (int bursts : new int[] {7, 8, 9, 10}) {
            BurstFinder x = Make.withBursts(bursts);
            x.find(0, 1);
            int many = Math.min(bursts, 8);
            Check.due(bursts + " bursts", many, () -> x.count(4));
            Check.due(bursts + " bursts: the last", 5 * (bursts - many) + 1,
                    () -> x.candidate(many - 1, 1));
            Check.due(bursts + " bursts: no more", Make.INDEX, () -> x.candidate(many, 1));
        }
    }

    private static final String DISCARDING = "The candidates are discarded by each call of "
            + "setChannels, advance, load, inject, setMasked and strike that throws no exception, "
            + "also if it changes nothing.";

    private static void dueCandidate(BurstFinder x) {
        Check.due("the candidate is there", "0 1 1 3000", () -> Edges.box(x, 0));
    }

    private static void dueNone(BurstFinder x) {
        Check.due("candidates", 0, () -> x.count(4));
        Check.due("candidate 0", Make.INDEX, () -> x.candidate(0, 0));
    }

    @Sentence(promise = 0, says = DISCARDING)
    static void setChannelsDiscards() {
        BurstFinder x = Make.withCandidate();
        Check.due("refused", Make.ARGUMENT, () -> x.setChannels(3));
        dueCandidate(x);
        x.setChannels(2);
        dueNone(x);
    }

    @Sentence(promise = 0, says = DISCARDING)
    static void advanceDiscards() {
        BurstFinder x = Make.withCandidate();
        dueCandidate(x);
        x.advance();
        dueNone(x);
        Check.due("in its column", BurstFinder.NONE, () -> x.candidateAt(1));
        BurstFinder full = Make.withBursts(3);
        full.find(0, 1);
        full.advance();
        dueNone(full);
    }

    @Sentence(promise = 0, says = DISCARDING)
    static void loadDiscards() {
        BurstFinder x = Make.withCandidate();
        Check.due("an empty buffer is refused", Make.STATE, x::load);
        Make.write(x, "0");
        Check.due("half a column is refused", Make.STATE, x::load);
        dueCandidate(x);
        Make.addColumns(x, "0");
        dueNone(x);
    }

    @Sentence(promise = 0, says = DISCARDING)
    static void injectDiscards() {
        BurstFinder x = Make.withCandidate();
        Check.due("no such line", Make.INDEX, () -> x.inject(1, 3, 1));
        Check.due("no such amplitude", Make.ARGUMENT, () -> x.inject(1, 2, 0));
        dueCandidate(x);
        x.inject(0, 1, 9999);
        dueNone(x);
        x.find(0, 1);
        dueCandidate(x);
        Check.due("nothing is added", 0, () -> x.inject(0, 1, 1));
        dueNone(x);
    }

    @Sentence(promise = 0, says = DISCARDING)
    static void setMaskedDiscards() {
        BurstFinder x = Make.withCandidate();
        Check.due("refused", Make.INDEX, () -> x.setMasked(2, true));
        dueCandidate(x);
        x.setMasked(1, true);
        dueNone(x);
        for (boolean masked : Edges.BOTH) {
            x.setMasked(1, masked);
            x.find(0, 1);
            dueCandidate(x);
            Check.due("nothing changes", masked, () -> x.setMasked(1, masked));
            dueNone(x);
        }
    }

    @Sentence(promise = 0, says = DISCARDING)
    static void strikeDiscards() {
        BurstFinder x = Make.withCandidate();
        Check.due("too many are refused", Make.ARGUMENT, () -> x.strike(3));
        Check.due("too few are refused", Make.ARGUMENT, () -> x.strike(-1));
        dueCandidate(x);
        Check.due("nothing changes", 0, () -> x.strike(0));
        dueNone(x);
        x.find(0, 1);
        dueCandidate(x);
        x.strike(1);
        dueNone(x);
    }

    @Sentence(promise = 0, says = "(setPending does not discard them.)")
    static void setPendingKeepsCandidates() {
        BurstFinder x = Make.withCandidate();
        x.setPending(0, 9999);
        dueCandidate(x);
        x.setPending(0, 0);
        dueCandidate(x);
        Check.due("refused", Make.ARGUMENT, () -> x.setPending(0, -1));
        dueCandidate(x);
    }

    // ---- input text

    @Sentence(promise = 0, says = "The input buffer has at most 64 characters.")
    static void atMost64Characters() {
        BurstFinder x = new BurstFinder();
        Make.write(x, "0".repeat(63));
        Check.due("the 64th", 64, () -> x.append('0'));
        Check.due("the 65th", Make.STATE, () -> x.append('0'));
        Check.due("all of them", 64, x::firstError);
        Check.due("all of them are loaded", 16, x::load);
    }

    @Sentence(promise = 0, says = "A power is written as one character: a digit for 0 to 9, or a "
            + "letter 'A' to 'Z' for 10 to 35.")
    static void theFirstAndTheLastOfTheSigns() {
        BurstFinder x = Make.loaded(4, "09AZ", "18BY");
        int[] want = {0, 9, 10, 35, 1, 8, 11, 34};
        for (int i : Edges.from0Below(8)) {
            Check.due("sign " + i, want[i], () -> x.power(i % 4, i / 4));
        }
        for (char bad : "/:@[az".toCharArray()) {
            x.clearInput();
            Make.write(x, "000" + bad);
            Check.due("next to them: " + bad, Make.STATE, x::load);
        }
    }

    @Sentence(promise = 0, says = "A column is written as the powers of all channels, channel 0 "
            + "first; columns follow one another without anything in between.")
    static void nothingStandsBetweenColumns() {
        BurstFinder x = Make.withChannels(2);
        Make.write(x, "12 34");
        Check.due("a space between them", Make.STATE, x::load);
        x.clearInput();
        Make.write(x, "12 345");
        Check.due("a space, an even length", Make.STATE, x::load);
        x.clearInput();
        Make.write(x, "1234");
        Check.due("nothing between them", 2, x::load);
        Check.due("the first column's last channel", 2, () -> x.power(1, 0));
        Check.due("the second column's first channel", 3, () -> x.power(0, 1));
    }

    // ---- exceptions

    private static Check.Call[] refusedByAll(BurstFinder x) {
        return new Check.Call[] {
            () -> x.setChannels(3), () -> x.setPending(-1, 1), () -> x.setPending(16, 1),
            () -> x.setPending(0, -1), () -> x.setPending(0, 10000), () -> x.append(31),
            () -> x.append(127), x::load, () -> x.inject(-1, 0, 1), () -> x.inject(16, 0, 1),
            () -> x.inject(1, 47, 1), () -> x.inject(0, 48, 1), () -> x.inject(0, -1, 1),
            () -> x.inject(0, 0, 0), () -> x.inject(0, 0, 10000), () -> x.power(16, 0),
            () -> x.power(0, 48), () -> x.count(-1), () -> x.count(5),
            () -> x.setMasked(-1, true), () -> x.setMasked(16, true), () -> x.channelSum(16),
            () -> x.strike(-1), () -> x.strike(17), () -> x.offset(16, 0, true),
            () -> x.offset(0, 16, false), () -> x.bend(16), () -> x.lineSum(15, 33, false),
            () -> x.lineSum(15, 33, true), () -> x.mean(16), () -> x.boxSum(0, 0, 9),
            () -> x.boxSum(0, 41, 8), () -> x.score(0, 0, 0), () -> x.score(0, 41, 8),
            () -> x.find(-1, 8), () -> x.find(0, 0), () -> x.find(0, 9),
            () -> x.candidate(-1, 0), () -> x.candidate(8, 0), () -> x.candidate(0, 5),
            () -> x.candidateAt(-1), () -> x.candidateAt(48),
        };
    }

    private static void dueUnchanged(BurstFinder x) {
        long before = x.digest();
        Check.Call[] calls = refusedByAll(x);
        for (int i : Edges.from0Below(calls.length)) {
            Check.due("call " + i + " throws", true,
                    () -> Check.answer(calls[i]) instanceof Class);
            Check.due("the state behind call " + i, before, x::digest);
        }
    }

    private static final String NOTHING = "A call that throws an exception changes nothing.";

    @Sentence(promise = 0, says = NOTHING)
    static void refusedCallsOnANewObject() {
        dueUnchanged(new BurstFinder());
    }

    @Sentence(promise = 0, says = NOTHING)
    static void refusedCallsOnAFullObject() {
        BurstFinder x = Make.empty(16, 60);
        x.inject(15, 10, 9999);
        x.inject(0, 47, 9999);
        x.setMasked(3, true);
        Make.setAllPending(x, 9999);
        Make.write(x, "0".repeat(63) + "!");
        x.find(0, 8);
        Check.due("the last character stays", Make.STATE, () -> x.append('0'));
        dueUnchanged(x);
    }

    private static final String SEVERAL = "If several exceptions apply, the one that is named first "
            + "in the throws clause is thrown.";

    @Sentence(promise = 0, says = SEVERAL)
    static void setPendingWithTwoErrors() {
        BurstFinder x = new BurstFinder();
        Check.due("channel and power", Make.INDEX, () -> x.setPending(4, 10000));
        Check.due("both negative", Make.INDEX, () -> x.setPending(-1, -1));
    }

    @Sentence(promise = 0, says = SEVERAL)
    static void appendWithTwoErrors() {
        BurstFinder x = new BurstFinder();
        Make.write(x, "0".repeat(64));
        Check.due("a code too small, and full", Make.ARGUMENT, () -> x.append(31));
        Check.due("a code too large, and full", Make.ARGUMENT, () -> x.append(127));
    }

    @Sentence(promise = 0, says = SEVERAL)
    static void injectWithTwoErrors() {
        BurstFinder x = Make.empty(4, 5);
        Check.due("slope and amplitude", Make.INDEX, () -> x.inject(4, 0, 0));
        Check.due("column and amplitude", Make.INDEX, () -> x.inject(0, 5, 10000));
        Check.due("the line's end and amplitude", Make.INDEX, () -> x.inject(3, 2, 0));
    }

    @Sentence(promise = 0, says = SEVERAL)
    static void boxSumWithTwoErrors() {
        BurstFinder x = Make.empty(4, 5);
        Check.due("width and slope", Make.ARGUMENT, () -> x.boxSum(4, 0, 0));
        Check.due("width and box", Make.ARGUMENT, () -> x.boxSum(0, 5, 9));
    }

    @Sentence(promise = 0, says = SEVERAL)
    static void scoreWithTwoErrors() {
        BurstFinder x = Make.empty(4, 5);
        Check.due("width and slope", Make.ARGUMENT, () -> x.score(4, 0, 0));
        Check.due("width and box", Make.ARGUMENT, () -> x.score(0, 5, 9));
    }

    @Sentence(promise = 0, says = SEVERAL)
    static void candidateWithTwoErrors() {
        BurstFinder x = Make.withCandidate();
        Check.due("index too large, and what", Make.INDEX, () -> x.candidate(1, 5));
        Check.due("index too small, and what", Make.INDEX, () -> x.candidate(-1, -1));
    }
}
