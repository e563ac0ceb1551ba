/** Promises 19 to 23: boxes, scores and candidates. */
public final class BoxesTest {
    private BoxesTest() {
    }

    private static void promise19BoxSum() {
        BurstFinder x = Make.series(1, 2, 4, 8, 16, 32, 64, 128, 256);
        for (int w = 1; w <= 8; w++) {
            int width = w;
            Check.due("19: width " + w, (1 << w) - 1, () -> x.boxSum(0, 0, width));
            Check.due("19: from 1, width " + w, (2 << w) - 2, () -> x.boxSum(0, 1, width));
        }
        Check.due("19: slope 1", 255, () -> x.boxSum(1, 0, 8));
        Check.due("19: slope 1, too long", Make.INDEX, () -> x.boxSum(1, 1, 8));
        Check.due("19: slope 0, too long", Make.INDEX, () -> x.boxSum(0, 2, 8));
        Check.due("19: the last column", 256, () -> x.boxSum(0, 8, 1));
        Check.due("19: behind it", Make.INDEX, () -> x.boxSum(0, 9, 1));
        x.setMasked(0, true);
        Check.due("19: masked", 0, () -> x.boxSum(0, 0, 8));
    }

    private static void promises19And20Refuse() {
        BurstFinder x = Make.series(1, 2, 4, 8, 16, 32, 64, 128, 256);
        for (int w : new int[] {0, 9, -1, Integer.MIN_VALUE, Integer.MAX_VALUE}) {
            Check.due("19: width " + w, Make.ARGUMENT, () -> x.boxSum(0, 0, w));
            Check.due("19: all wrong, width " + w, Make.ARGUMENT, () -> x.boxSum(9, -1, w));
            Check.due("20: width " + w, Make.ARGUMENT, () -> x.score(0, 0, w));
            Check.due("20: all wrong, width " + w, Make.ARGUMENT, () -> x.score(9, -1, w));
        }
        Check.due("19: slope 2", Make.INDEX, () -> x.boxSum(2, 0, 1));
        Check.due("20: slope 2", Make.INDEX, () -> x.score(2, 0, 1));
        Check.due("20: slope 1, too long", Make.INDEX, () -> x.score(1, 1, 8));
        Check.due("20: behind the columns", Make.INDEX, () -> x.score(0, 9, 1));
        for (int far : Make.FAR) {
            Check.due("19: slope " + far, Make.INDEX, () -> x.boxSum(far, 0, 1));
            Check.due("19: column " + far, Make.INDEX, () -> x.boxSum(1, far, 8));
            Check.due("20: slope " + far, Make.INDEX, () -> x.score(far, 0, 1));
            Check.due("20: column " + far, Make.INDEX, () -> x.score(1, far, 8));
        }
        BurstFinder none = new BurstFinder();
        Check.due("19: no column", Make.INDEX, () -> none.boxSum(0, 0, 1));
        Check.due("20: no column", Make.INDEX, () -> none.score(0, 0, 1));
    }

    private static void promise20Score() {
        // Line sums 0 3 5 0: N = 4, S = 8, Q = 34, v = 72.
        BurstFinder x = Make.series(0, 3, 5, 0);
        Check.due("20: below the mean", 0, () -> x.score(0, 0, 1));
        Check.due("20: e = 4", 222, () -> x.score(0, 1, 1));
        Check.due("20: e = 12", 2000, () -> x.score(0, 2, 1));
        Check.due("20: e = 16, w = 2", 1777, () -> x.score(0, 1, 2));
        Check.due("20: e = 8, w = 3", 296, () -> x.score(0, 0, 3));
        Check.due("20: e = 0", 0, () -> x.score(0, 0, 4));
        BurstFinder even = Make.series(7, 7, 7);
        Check.due("20: v = 0", 0, () -> even.score(0, 1, 1));
        BurstFinder one = Make.series(7);
        Check.due("20: a single line", 0, () -> one.score(0, 0, 1));
    }

    /** The greatest numbers that the document allows. */
    private static void promise20Great() {
        BurstFinder x = Make.withChannels(16);
        Make.addEmpty(x, 48);
        for (int t = 20; t < 28; t++) {
            x.inject(0, t, 9999);
        }
        Check.due("20: a great box", 40000, () -> x.score(0, 20, 8));
        Check.due("20: a great sum", 8 * 16 * 9999, () -> x.boxSum(0, 20, 8));
        Check.due("20: one great line", 5000, () -> x.score(0, 27, 1));
        BurstFinder y = Make.withChannels(16);
        Make.addEmpty(y, 48);
        y.inject(0, 47, 9999);
        Check.due("20: one line of 48", 47000, () -> y.score(0, 47, 1));
        Check.due("20: a wide box round it", 40 * 40 * 1000 / (8 * 47), () -> y.score(0, 40, 8));
    }

    private static void promise21Find() {
        BurstFinder x = Make.series(0, 0, 9, 0, 0, 0, 5, 0, 0, 0);
        Check.due("21: one by one", 2, () -> x.find(0, 1));
        Check.due("21: the first", "0 2 1 " + x.score(0, 2, 1), () -> Edges.box(x, 0));
        Check.due("21: the second", "0 6 1 " + x.score(0, 6, 1), () -> Edges.box(x, 1));
        long first = x.score(0, 2, 1);
        long second = x.score(0, 6, 1);
        Check.due("21: at the second's score", 2, () -> x.find(second, 1));
        Check.due("21: above it", 1, () -> x.find(second + 1, 1));
        Check.due("21: at the first's score", 1, () -> x.find(first, 1));
        Check.due("21: above that", 0, () -> x.find(first + 1, 1));
        Check.due("21: none are left", 0, () -> x.count(4));
        Check.due("21: the greatest threshold", 0, () -> x.find(Long.MAX_VALUE, 8));
    }

    private static void promise21Widths() {
        BurstFinder x = Make.series(0, 0, 6, 6, 6, 0, 0, 0, 0, 0, 0, 0);
        Check.due("21: width 3", 1, () -> x.find(3000, 3));
        Check.due("21: the whole burst", "0 2 3 " + x.score(0, 2, 3), () -> Edges.box(x, 0));
        x.find(0, 8);
        Check.due("21: no wider than it is", "0 2 3 " + x.score(0, 2, 3), () -> Edges.box(x, 0));
        x.find(0, 2);
        Check.due("21: width 2, the first column", "0 2 2 " + x.score(0, 2, 2), () -> Edges.box(x, 0));
        Check.due("21: width 2, the rest", "0 4 1 " + x.score(0, 4, 1), () -> Edges.box(x, 1));
    }

    private static void promise21FirstAndLastColumn() {
        BurstFinder x = Make.series(9, 0, 0, 0, 0, 0, 0, 6);
        Check.due("21: at both ends", 2, () -> x.find(0, 1));
        Check.due("21: the first column", "1 0 1 6000", () -> Edges.box(x, 0));
        Check.due("21: the last column", "0 7 1 1531", () -> Edges.box(x, 1));
        Check.due("21: the end of the first span", 0, () -> x.candidateAt(1));
        Check.due("21: the last span", 1, () -> x.candidateAt(7));
    }

    private static void promise21Nothing() {
        BurstFinder none = new BurstFinder();
        Check.due("21: no column", 0, () -> none.find(0, 8));
        BurstFinder even = Make.series(7, 7, 7, 7);
        Check.due("21: even lines", 0, () -> even.find(0, 8));
        BurstFinder masked = Make.series(0, 9, 0, 0);
        masked.setMasked(0, true);
        Check.due("21: masked", 0, () -> masked.find(0, 8));
    }

    private static void promise21AtMostEight() {
        int[] powers = new int[40];
        for (int i = 0; i < 10; i++) {
            powers[4 * i + 1] = 100 + i;
        }
        BurstFinder x = Make.series(powers);
        Check.due("21: eight", 8, () -> x.find(0, 1));
        for (int i = 0; i < 8; i++) {
            int index = i;
            Check.due("21: the column of " + i, 37 - 4 * i, () -> x.candidate(index, 1));
        }
        Check.due("21: no ninth", Make.INDEX, () -> x.candidate(8, 0));
        Check.due("21: its column", -1, () -> x.candidateAt(1));
    }

    /** The first candidate is due before another box that has the same score. */
    private static void dueFirst(String rule, String first, String other, int... powers) {
        BurstFinder x = Make.series(powers);
        x.find(0, 8);
        Check.due("21: " + rule, first, () -> Edges.box(x, 0));
        String[] part = other.split(" ");
        Check.due("21: the other score, " + rule, x.candidate(0, 3), () -> x.score(
                Integer.parseInt(part[0]), Integer.parseInt(part[1]), Integer.parseInt(part[2])));
    }

    /** Equal scores: the least slope, then the least column, then the least width. */
    private static void promise21Ties() {
        dueFirst("slope before column", "0 5 3 1333", "1 3 1", 0, 2, 2, 3, 1, 3, 2, 3);
        dueFirst("slope before width", "0 1 2 1000", "1 1 1", 0, 1, 1);
        dueFirst("column before width", "0 1 4 1800", "0 4 1", 0, 2, 2, 2, 3, 0);
        dueFirst("width", "0 2 1 1421", "0 2 4", 0, 0, 3, 1, 3, 2);
        dueFirst("column", "0 1 1 2000", "0 4 1", 0, 4, 0, 0, 4, 0);
    }

    private static void promise21Spans() {
        // A strong line of slope 3 over the columns 2 to 5 takes their columns from all others.
        BurstFinder x = new BurstFinder();
        Make.addEmpty(x, 12);
        x.inject(3, 2, 500);
        Check.due("21: found", true, () -> x.find(0, 1) >= 1);
        Check.due("21: the line", "3 2 1 8000", () -> Edges.box(x, 0));
        for (int t = 0; t < 12; t++) {
            int column = t;
            boolean inside = t >= 2 && t <= 5;
            Check.due("21: column " + t, inside, () -> x.candidateAt(column) == 0);
        }
        Check.due("21: nothing else has power", 1, () -> x.count(4));
    }

    private static void promise21Refuses() {
        BurstFinder x = Make.series(0, 9, 0);
        x.find(0, 1);
        Check.due("21: threshold -1", Make.ARGUMENT, () -> x.find(-1, 1));
        Check.due("21: least threshold", Make.ARGUMENT, () -> x.find(Long.MIN_VALUE, 1));
        for (int w : new int[] {0, 9, -1, Integer.MIN_VALUE, Integer.MAX_VALUE}) {
            Check.due("21: width " + w, Make.ARGUMENT, () -> x.find(0, w));
        }
        Check.due("21: the candidates stay", 1, () -> x.count(4));
        Check.due("21: and are the same", 1, () -> x.candidate(0, 1));
    }

    private static void dueDiscarded(String call, BurstFinder x) {
        Check.due("candidates after " + call, 0, () -> x.count(4));
        Check.due("candidate after " + call, Make.INDEX, () -> x.candidate(0, 0));
    }

    private static void candidatesAreDiscarded() {
        BurstFinder x = Make.withCandidate();
        x.setChannels(2);
        dueDiscarded("setChannels", x);
        x = Make.withCandidate();
        x.advance();
        dueDiscarded("advance", x);
        Check.due("no candidate in its column", -1, withoutCandidate(x));
        x = Make.withCandidate();
        Make.addColumns(x, "00");
        dueDiscarded("load", x);
        x = Make.withCandidate();
        x.inject(0, 0, 1);
        dueDiscarded("inject", x);
        x = Make.withCandidate();
        x.setMasked(1, false);
        dueDiscarded("setMasked that changes nothing", x);
        x = Make.withCandidate();
        x.strike(0);
        dueDiscarded("strike that changes nothing", x);
        x = Make.series(9999, 0, 0, 0);
        x.setPending(1, 9999);
        x.advance();
        x.inject(1, 3, 9999);
        x.inject(1, 3, 9999);
        x.find(0, 1);
        Check.due("candidates before", true, positive(x));
        x.inject(1, 3, 1);
        dueDiscarded("inject that changes nothing", x);
    }

    private static Check.Call withoutCandidate(BurstFinder x) {
        return () -> x.candidateAt(1);
    }

    private static Check.Call positive(BurstFinder x) {
        return () -> x.count(4) > 0;
    }

    private static void candidatesAreKept() {
        BurstFinder x = Make.withCandidate();
        Check.due("wrong setChannels", Make.ARGUMENT, () -> x.setChannels(3));
        Check.due("wrong load", Make.STATE, x::load);
        Check.due("wrong inject", Make.INDEX, () -> x.inject(0, 4, 1));
        Check.due("wrong amplitude", Make.ARGUMENT, () -> x.inject(0, 0, 0));
        Check.due("wrong setMasked", Make.INDEX, () -> x.setMasked(2, true));
        Check.due("wrong strike", Make.ARGUMENT, () -> x.strike(3));
        x.setPending(0, 1);
        x.append('0');
        x.clearInput();
        x.digest();
        x.score(0, 0, 1);
        x.mean(0);
        Check.due("the candidate is still there", "0 1 1 3000", () -> Edges.box(x, 0));
    }

    private static void promise22Candidate() {
        BurstFinder x = Make.withChannels(2);
        Make.addEmpty(x, 51);
        x.inject(1, 30, 400);
        x.inject(1, 31, 400);
        Check.due("22: found", 1, () -> x.find(0, 4));
        Check.due("22: slope", 1, () -> x.candidate(0, 0));
        Check.due("22: column", 30, () -> x.candidate(0, 1));
        Check.due("22: width", 2, () -> x.candidate(0, 2));
        Check.due("22: score", x.score(1, 30, 2), () -> x.candidate(0, 3));
        Check.due("22: column from the beginning", 33, () -> x.candidate(0, 4));
        Check.due("22: what 5", Make.ARGUMENT, () -> x.candidate(0, 5));
        Check.due("22: index 1", Make.INDEX, () -> x.candidate(1, 0));
        Check.due("22: both wrong", Make.INDEX, () -> x.candidate(1, 5));
        for (int far : Make.FAR) {
            Check.due("22: what " + far, Make.ARGUMENT, () -> x.candidate(0, far));
            Check.due("22: index " + far, Make.INDEX, () -> x.candidate(far, 0));
        }
    }

    private static void promise23CandidateAt() {
        BurstFinder x = Make.withChannels(2);
        Make.addEmpty(x, 20);
        x.inject(1, 4, 400);
        x.inject(1, 5, 400);
        x.inject(1, 12, 100);
        Check.due("23: found", 2, () -> x.find(0, 2));
        for (int t = 0; t < 20; t++) {
            int column = t;
            int want = t >= 4 && t <= 6 ? 0 : t == 12 || t == 13 ? 1 : -1;
            Check.due("23: column " + t, want, () -> x.candidateAt(column));
        }
        Check.due("23: column 20", Make.INDEX, () -> x.candidateAt(20));
        for (int far : Make.FAR) {
            Check.due("23: column " + far, Make.INDEX, () -> x.candidateAt(far));
        }
        BurstFinder none = new BurstFinder();
        Check.due("23: no column", Make.INDEX, () -> none.candidateAt(0));
    }

    public static void main(String[] args) {
        promise19BoxSum();
        promises19And20Refuse();
        promise20Score();
        promise20Great();
        promise21Find();
        promise21Widths();
        promise21FirstAndLastColumn();
        promise21Nothing();
        promise21AtMostEight();
        promise21Ties();
        promise21Spans();
        promise21Refuses();
        candidatesAreDiscarded();
        candidatesAreKept();
        promise22Candidate();
        promise23CandidateAt();
        Check.finish("BoxesTest");
    }
}
