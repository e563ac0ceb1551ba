/** The boundary cases of promises 19 to 23, a test for each sentence. */
final class EdgesOfBoxes {
    private EdgesOfBoxes() {
    }

    /** 2 channels and 9 columns, so that a box of the greatest width has just room in slope 1. */
    private static BurstFinder doubling() {
        return Make.series(1, 2, 4, 8, 16, 32, 64, 128, 256);
    }

    /** 2 channels and 24 columns, of which those from 8 to 15 have equal power. */
    private static BurstFinder broad() {
        int[] powers = new int[24];
        for (int i = 8; i < 16; i++) {
            powers[i] = 6;
        }
        return Make.series(powers);
    }

    // ---- promise 19

    @Sentence(promise = 19, says = "- `column`: the column from which the box begins")
    static void theFirstAndTheLastBox() {
        BurstFinder x = doubling();
        Check.due("the first", 255, () -> x.boxSum(0, 0, 8));
        Check.due("the last", 510, () -> x.boxSum(0, 1, 8));
        Check.due("the last narrow one", 256, () -> x.boxSum(0, 8, 1));
        Check.due("the only one of slope 1", 255, () -> x.boxSum(1, 0, 8));
    }

    @Sentence(promise = 19, says = "- `width`: the width, 1 to 8")
    static void boxSumsOfAllWidths() {
        BurstFinder x = doubling();
        for (int width : Edges.inside(1, 8)) {
            Check.due("width " + width, (1 << width) - 1, () -> x.boxSum(0, 0, width));
        }
    }

    @Sentence(promise = 19, says = "Throws `IllegalArgumentException` if width is not 1 to 8")
    static void boxSumOfOtherWidths() {
        BurstFinder x = Make.empty(4, 48);
        Edges.refused(x, "width", Make.ARGUMENT, Edges.outside(1, 8), w -> x.boxSum(0, 0, w));
        BurstFinder none = new BurstFinder();
        Edges.refused(none, "no box, width", Make.ARGUMENT, Edges.outside(1, 8),
                w -> none.boxSum(0, 0, w));
    }

    private static final String BOX_REFUSES =
            "Throws `IndexOutOfBoundsException` if there is no such slope, or no such box";

    @Sentence(promise = 19, says = BOX_REFUSES)
    static void boxSumWithoutSuchASlope() {
        for (int n : Edges.CHANNEL_NUMBERS) {
            BurstFinder x = Make.empty(n, 40);
            Edges.due("there is slope", 0, Edges.from0Below(n), d -> x.boxSum(d, 1, 8));
            Edges.refused(x, n + " channels, slope", Make.INDEX, Edges.outside(0, n - 1),
                    d -> x.boxSum(d, 1, 8));
        }
    }

    @Sentence(promise = 19, says = BOX_REFUSES)
    static void boxSumWithoutSuchABox() {
        BurstFinder x = Make.empty(4, 12);
        for (int width : new int[] {1, 2, 8}) {
            for (int slope : new int[] {0, 1, 3}) {
                int last = 12 - slope - width;
                Edges.due("there is a box from", 0, new int[] {0, last},
                        t -> x.boxSum(slope, t, width));
                Edges.refused(x, "slope " + slope + ", width " + width + ", column", Make.INDEX,
                        Edges.outside(0, last), t -> x.boxSum(slope, t, width));
            }
        }
        BurstFinder none = new BurstFinder();
        Check.due("no columns", Make.INDEX, () -> none.boxSum(0, 0, 1));
        BurstFinder few = Make.empty(4, 7);
        Check.due("a column too few for the width", Make.INDEX, () -> few.boxSum(0, 0, 8));
        Check.due("a column too few for both", Make.INDEX, () -> few.boxSum(3, 0, 5));
        Check.due("just enough for both", 0, () -> few.boxSum(3, 0, 4));
    }

    // ---- promise 20

    @Sentence(promise = 20, says = "- `column`: the column from which the box begins")
    static void scoresOfTheFirstAndTheLastBox() {
        BurstFinder x = Make.series(9, 0, 0, 0, 0, 0, 0, 0, 0);
        Check.due("the first", 8000, () -> x.score(0, 0, 1));
        Check.due("the first of slope 1", 7000, () -> x.score(1, 0, 1));
        Check.due("the last", 0, () -> x.score(0, 8, 1));
        BurstFinder y = Make.series(0, 0, 0, 0, 0, 0, 0, 0, 9);
        Check.due("the last with power", 8000, () -> y.score(0, 8, 1));
        Check.due("the last of the greatest width", 1000 / 64, () -> y.score(0, 1, 8));
    }

    @Sentence(promise = 20, says = "- `width`: the width, 1 to 8")
    static void scoresOfAllWidths() {
        BurstFinder x = broad();
        for (int width : Edges.inside(1, 8)) {
            Check.due("width " + width, 2000 * width, () -> x.score(0, 8, width));
        }
    }

    @Sentence(promise = 20, says = "Throws `IllegalArgumentException` if width is not 1 to 8")
    static void scoreOfOtherWidths() {
        BurstFinder x = Make.empty(4, 48);
        Edges.refused(x, "width", Make.ARGUMENT, Edges.outside(1, 8), w -> x.score(0, 0, w));
        BurstFinder none = new BurstFinder();
        Edges.refused(none, "no box, width", Make.ARGUMENT, Edges.outside(1, 8),
                w -> none.score(0, 0, w));
    }

    @Sentence(promise = 20, says = BOX_REFUSES)
    static void scoreWithoutSuchASlope() {
        for (int n : Edges.CHANNEL_NUMBERS) {
            BurstFinder x = Make.empty(n, 40);
            Edges.due("there is slope", 0, Edges.from0Below(n), d -> x.score(d, 1, 8));
            Edges.refused(x, n + " channels, slope", Make.INDEX, Edges.outside(0, n - 1),
                    d -> x.score(d, 1, 8));
        }
    }

    @Sentence(promise = 20, says = BOX_REFUSES)
    static void scoreWithoutSuchABox() {
        BurstFinder x = Make.empty(4, 12);
        for (int width : new int[] {1, 2, 8}) {
            for (int slope : new int[] {0, 1, 3}) {
                int last = 12 - slope - width;
                Edges.due("there is a box from", 0, new int[] {0, last},
                        t -> x.score(slope, t, width));
                Edges.refused(x, "slope " + slope + ", width " + width + ", column", Make.INDEX,
                        Edges.outside(0, last), t -> x.score(slope, t, width));
            }
        }
        BurstFinder none = new BurstFinder();
        Check.due("no columns", Make.INDEX, () -> none.score(0, 0, 1));
        BurstFinder few = Make.empty(4, 7);
        Check.due("a column too few for the width", Make.INDEX, () -> few.score(0, 0, 8));
        Check.due("a column too few for both", Make.INDEX, () -> few.score(3, 0, 5));
        Check.due("just enough for both", 0, () -> few.score(3, 0, 4));
    }

    // ---- promise 21

    @Sentence(promise = 21, says = "Finds candidates; those that were found before are discarded.")
    static void findAgainFindsAnew() {
        BurstFinder x = Make.withBursts(8);
        x.find(0, 1);
        Check.due("all that fit", 8, () -> x.count(4));
        x.find(0, 1);
        Check.due("the same again", 8, () -> x.count(4));
        Check.due("the strongest is the first", 36, () -> x.candidate(0, 1));
        x.find(Long.MAX_VALUE, 1);
        Check.due("none is left", 0, () -> x.count(4));
        Check.due("nor in its column", -1, () -> x.candidateAt(36));
        Check.due("nor by its index", Make.INDEX, () -> x.candidate(0, 0));
        x.find(0, 1);
        Check.due("a free column is free again", 0, () -> x.candidateAt(36));
    }

    @Sentence(promise = 21, says = "- `threshold`: the least score, 0 or more")
    static void theLeastAndTheGreatestThreshold() {
        BurstFinder x = Make.withCandidate();
        Check.due("0", 1, () -> x.find(0, 1));
        Check.due("the score itself", 1, () -> x.find(3000, 1));
        Check.due("1 more", 0, () -> x.find(3001, 1));
        Check.due("more than an int holds", 0, () -> x.find(1L << 32, 1));
        Check.due("the greatest", 0, () -> x.find(Long.MAX_VALUE, 1));
    }

    @Sentence(promise = 21, says = "- `width`: the greatest width, 1 to 8")
    static void findOfAllWidths() {
        BurstFinder x = broad();
        for (int width : Edges.inside(1, 8)) {
            x.find(0, width);
            Check.due("width " + width, "0 8 " + width + " " + 2000 * width,
                    () -> Edges.box(x, 0));
        }
    }

    @Sentence(promise = 21, says = "Returns how many were found.")
    static void findReturnsNoneToEight() {
        BurstFinder none = new BurstFinder();
        Check.due("no columns", 0, () -> none.find(0, 8));
        BurstFinder one = Make.series(9);
        Check.due("a single column", 0, () -> one.find(0, 8));
        for (int bursts : Edges.inside(0, 10)) {
            BurstFinder x = Make.withBursts(bursts);
            Check.due(bursts + " bursts", Math.min(bursts, 8), () -> x.find(0, 1));
        }
    }

    private static final String FIND_REFUSES =
            "Throws `IllegalArgumentException` if threshold or width is out of range";

    @Sentence(promise = 21, says = FIND_REFUSES)
    static void findWithANegativeThreshold() {
        BurstFinder x = Make.withCandidate();
        long before = x.digest();
        for (long threshold : new long[] {-1, -2, Integer.MIN_VALUE, -1L << 32,
            Long.MIN_VALUE + 1, Long.MIN_VALUE}) {
            Check.due("threshold " + threshold, Make.ARGUMENT, () -> x.find(threshold, 1));
        }
        Check.due("the candidates are as before", before, x::digest);
    }

    @Sentence(promise = 21, says = FIND_REFUSES)
    static void findWithAnotherWidth() {
        BurstFinder x = Make.withCandidate();
        Edges.refused(x, "width", Make.ARGUMENT, Edges.outside(1, 8), w -> x.find(0, w));
        BurstFinder none = new BurstFinder();
        Edges.refused(none, "no columns, width", Make.ARGUMENT, Edges.outside(1, 8),
                w -> none.find(Long.MAX_VALUE, w));
    }

    // ---- promise 22

    @Sentence(promise = 22, says = "- `index`: the index of the candidate, from 0, in the order in "
            + "which they were found")
    static void theFirstAndTheLastCandidate() {
        BurstFinder x = Make.withBursts(10);
        x.find(0, 1);
        for (int index : Edges.from0Below(8)) {
            Check.due("column of " + index, 46 - 5 * index, () -> x.candidate(index, 1));
        }
    }

    @Sentence(promise = 22, says = "- `what`: 0 for the slope, 1 for the column, 2 for the width, 3 "
            + "for the score, 4 for the first column of its span plus the number of columns that "
            + "were dropped")
    static void propertiesOfACandidateAtTheEnd() {
        BurstFinder x = Make.steepAndBroad(148, 25);
        x.find(0, 8);
        Check.due("slope", 15, () -> x.candidate(0, 0));
        Check.due("column", 25, () -> x.candidate(0, 1));
        Check.due("width", 8, () -> x.candidate(0, 2));
        // 8 of 33 lines have equal power: 1000 * 8 * (33 - 8) / 8.
        Check.due("score", 25000, () -> x.candidate(0, 3));
        Check.due("column from the beginning", 125, () -> x.candidate(0, 4));
        BurstFinder y = Make.series(9, 0, 0);
        y.find(0, 1);
        Check.due("the first column, none dropped", 0, () -> y.candidate(0, 4));
    }

    @Sentence(promise = 22,
            says = "Throws `IndexOutOfBoundsException` if there is no such candidate")
    static void noSuchCandidate() {
        for (int bursts : new int[] {1, 7, 8}) {
            BurstFinder x = Make.withBursts(bursts);
            Check.due("before find", Make.INDEX, () -> x.candidate(0, 0));
            x.find(0, 1);
            Check.due("the last", 0, () -> x.candidate(bursts - 1, 0));
            Edges.refused(x, bursts + " candidates, index", Make.INDEX,
                    Edges.outside(0, bursts - 1), i -> x.candidate(i, 0));
            x.find(Long.MAX_VALUE, 1);
            Edges.refused(x, "none, index", Make.INDEX, Edges.inside(-1, 8),
                    i -> x.candidate(i, 0));
        }
    }

    @Sentence(promise = 22, says = "Throws `IllegalArgumentException` if what is not 0 to 4")
    static void noSuchProperty() {
        BurstFinder x = Make.withCandidate();
        Edges.refused(x, "what", Make.ARGUMENT, Edges.outside(0, 4), w -> x.candidate(0, w));
    }

    // ---- promise 23

    @Sentence(promise = 23, says = "Finds the first candidate whose span contains a column.")
    static void theEndsOfASpan() {
        BurstFinder x = Make.empty(4, 12);
        x.inject(3, 2, 500);
        x.inject(3, 3, 500);
        Make.mask(x, 1, 2);
        Check.due("found", 1, () -> x.find(0, 2));
        Check.due("the box", "3 2 2 7000", () -> Edges.box(x, 0));
        Check.due("before the span", -1, () -> x.candidateAt(1));
        Edges.due("in the span", 0, Edges.inside(2, 6), x::candidateAt);
        Check.due("behind the span", -1, () -> x.candidateAt(7));
    }

    @Sentence(promise = 23, says = "Returns the index of the candidate; NONE if there is none.")
    static void noCandidateInTheColumn() {
        BurstFinder x = Make.withBursts(9);
        Edges.due("before find", BurstFinder.NONE, Edges.inside(0, 47), x::candidateAt);
        x.find(0, 1);
        Check.due("the index of the last", 7, () -> x.candidateAt(6));
        Check.due("the index of the first", 0, () -> x.candidateAt(41));
        Check.due("the burst that was one too many", BurstFinder.NONE, () -> x.candidateAt(1));
        Check.due("the first column", BurstFinder.NONE, () -> x.candidateAt(0));
        Check.due("the last column", BurstFinder.NONE, () -> x.candidateAt(47));
    }

    @Sentence(promise = 23,
            says = "Throws `IndexOutOfBoundsException` if the column does not exist")
    static void candidateAtNoColumn() {
        BurstFinder x = Make.withCandidate();
        Edges.refused(x, "4 columns, column", Make.INDEX, Edges.outside(0, 3), x::candidateAt);
        BurstFinder full = Make.counted(49);
        Edges.refused(full, "48 columns, column", Make.INDEX, Edges.outside(0, 47),
                full::candidateAt);
        BurstFinder none = new BurstFinder();
        Edges.refused(none, "no columns, column", Make.INDEX, Edges.inside(-1, 1),
                none::candidateAt);
    }
}
