/** The boundary cases of promises 15 to 18, a test for each sentence. */
final class EdgesOfLines {
    private EdgesOfLines() {
    }

    // ---- promise 15

    @Sentence(promise = 15,
            says = "- `straight`: true for the straight offset, false for the tree offset")
    static void offsetsThatDiffer() {
        BurstFinder x = Make.withChannels(16);
        Check.due("tree, earlier", 1, () -> x.offset(5, 5, false));
        Check.due("straight, later", 2, () -> x.offset(5, 5, true));
        Check.due("tree, later", 4, () -> x.offset(5, 10, false));
        Check.due("straight, earlier", 3, () -> x.offset(5, 10, true));
    }

    private static final String OFFSET_REFUSES =
            "Throws `IndexOutOfBoundsException` if there is no such slope or channel";

    @Sentence(promise = 15, says = OFFSET_REFUSES)
    static void offsetWithoutSuchASlope() {
        for (int n : Edges.CHANNEL_NUMBERS) {
            BurstFinder x = Make.withChannels(n);
            for (boolean straight : Edges.BOTH) {
                Check.due("the greatest slope", n - 1, () -> x.offset(n - 1, n - 1, straight));
                Check.due("the least slope", 0, () -> x.offset(0, n - 1, straight));
                Edges.refused(x, n + " channels, slope", Make.INDEX, Edges.outside(0, n - 1),
                        d -> x.offset(d, n - 1, straight));
            }
        }
    }

    @Sentence(promise = 15, says = OFFSET_REFUSES)
    static void offsetWithoutSuchAChannel() {
        for (int n : Edges.CHANNEL_NUMBERS) {
            BurstFinder x = Make.withChannels(n);
            for (boolean straight : Edges.BOTH) {
                Edges.due("there is channel", 0, Edges.from0Below(n),
                        c -> x.offset(0, c, straight));
                Edges.refused(x, n + " channels, channel", Make.INDEX, Edges.outside(0, n - 1),
                        c -> x.offset(n - 1, c, straight));
            }
        }
    }

    // ---- promise 16

    @Sentence(promise = 16, says = "Returns the greatest absolute difference of the tree offset and "
            + "the straight offset of a channel.")
    static void bendsOfAllSlopes() {
        for (int n : new int[] {2, 4, 8}) {
            BurstFinder x = Make.withChannels(n);
            Edges.due(n + " channels, slope", 0, Edges.from0Below(n), x::bend);
        }
        BurstFinder x = Make.withChannels(16);
        Check.due("the least slope", 0, () -> x.bend(0));
        Check.due("the greatest slope", 0, () -> x.bend(15));
        Edges.due("the tree is earlier or later, slope", 1, new int[] {3, 5, 6, 9, 10, 12},
                x::bend);
        Edges.due("the tree is straight, slope", 0, new int[] {1, 2, 4, 7, 8, 11, 13, 14},
                x::bend);
    }

    @Sentence(promise = 16, says = "Throws `IndexOutOfBoundsException` if there is no such slope")
    static void bendWithoutSuchASlope() {
        for (int n : Edges.CHANNEL_NUMBERS) {
            BurstFinder x = Make.withChannels(n);
            Edges.refused(x, n + " channels, slope", Make.INDEX, Edges.outside(0, n - 1), x::bend);
        }
    }

    // ---- promise 17

    @Sentence(promise = 17, says = "- `column`: the column from which the line begins")
    static void theFirstAndTheLastLine() {
        BurstFinder x = Make.loaded(4, "1000", "0200", "0040", "9008", "0A00", "00B0", "000C");
        for (boolean straight : Edges.BOTH) {
            Check.due("the first line", 15, () -> x.lineSum(3, 0, straight));
            Check.due("the last line", 9 + 10 + 11 + 12, () -> x.lineSum(3, 3, straight));
            Check.due("the first flat line", 1, () -> x.lineSum(0, 0, straight));
            Check.due("the last flat line", 12, () -> x.lineSum(0, 6, straight));
        }
    }

    @Sentence(promise = 17,
            says = "- `straight`: true for the straight sum, false for the line sum")
    static void sumsThatDiffer() {
        BurstFinder x = Make.empty(16, 5);
        x.setPending(5, 9999);
        x.setPending(10, 7);
        x.advance();
        Make.addEmpty(x, 4);
        // Of slope 5, channel 5 is met at offset 1 by the tree and at 2 straight; 10 at 4 and 3.
        Check.due("line sum with channel 5", 9999, () -> x.lineSum(5, 4, false));
        Check.due("straight sum with channel 5", 9999, () -> x.lineSum(5, 3, true));
        Check.due("line sum with channel 10", 7, () -> x.lineSum(5, 1, false));
        Check.due("straight sum with channel 10", 7, () -> x.lineSum(5, 2, true));
    }

    private static final String LINE_REFUSES =
            "Throws `IndexOutOfBoundsException` if there is no such slope, or no such line";

    @Sentence(promise = 17, says = LINE_REFUSES)
    static void lineSumWithoutSuchASlope() {
        for (int n : Edges.CHANNEL_NUMBERS) {
            BurstFinder x = Make.empty(n, 40);
            for (boolean straight : Edges.BOTH) {
                Edges.due("there is slope", 0, Edges.from0Below(n),
                        d -> x.lineSum(d, 1, straight));
                Edges.refused(x, n + " channels, slope", Make.INDEX, Edges.outside(0, n - 1),
                        d -> x.lineSum(d, 1, straight));
            }
        }
    }

    private static void dueLines(BurstFinder x, int slope, int lines) {
        for (boolean straight : Edges.BOTH) {
            Edges.due("there is line", 0, Edges.from0Below(lines),
                    t -> x.lineSum(slope, t, straight));
            Edges.refused(x, "slope " + slope + ", line", Make.INDEX,
                    Edges.outside(0, lines - 1), t -> x.lineSum(slope, t, straight));
        }
    }

    @Sentence(promise = 17, says = LINE_REFUSES)
    static void lineSumWithoutSuchALine() {
        BurstFinder x = Make.empty(4, 5);
        dueLines(x, 0, 5);
        dueLines(x, 1, 4);
        dueLines(x, 3, 2);
        dueLines(Make.empty(16, 48), 15, 33);
        dueLines(Make.empty(16, 16), 15, 1);
    }

    @Sentence(promise = 17, says = LINE_REFUSES)
    static void lineSumWithTooFewColumns() {
        for (int columns : new int[] {0, 1, 14, 15}) {
            BurstFinder x = Make.empty(16, columns);
            for (boolean straight : Edges.BOTH) {
                Edges.refused(x, columns + " columns, line", Make.INDEX, Edges.inside(-16, 16),
                        t -> x.lineSum(15, t, straight));
            }
        }
    }

    // ---- promise 18

    @Sentence(promise = 18, says = "Returns s / N as a double (both converted to double before the "
            + "division); 0.0 if no line of this slope exists.")
    static void meanOfNoLineAndOfOne() {
        BurstFinder x = new BurstFinder();
        Edges.due("no columns, slope", 0.0, Edges.from0Below(4), x::mean);
        Make.addColumns(x, "1000", "0110");
        Check.due("half a power", 1.5, () -> x.mean(0));
        Check.due("a single line", 2.0, () -> x.mean(1));
        Check.due("a column too few", 0.0, () -> x.mean(2));
        Check.due("two columns too few", 0.0, () -> x.mean(3));
        x.advance();
        Check.due("three columns", 1.0, () -> x.mean(0));
        x.setPending(0, 1);
        x.advance();
        x.setMasked(2, true);
        Check.due("three of four", 0.75, () -> x.mean(0));
        Check.due("three lines", 1.0 / 3.0, () -> Make.series(0, 0, 1).mean(0));
        x.strike(4);
        Check.due("all channels are masked", 0.0, () -> x.mean(0));
    }

    @Sentence(promise = 18, says = "Throws `IndexOutOfBoundsException` if there is no such slope")
    static void meanWithoutSuchASlope() {
        for (int n : Edges.CHANNEL_NUMBERS) {
            for (int columns : new int[] {0, 20}) {
                BurstFinder x = Make.empty(n, columns);
                Edges.due("there is slope", 0.0, Edges.from0Below(n), x::mean);
                Edges.refused(x, n + " channels, slope", Make.INDEX, Edges.outside(0, n - 1),
                        x::mean);
            }
        }
    }
}
