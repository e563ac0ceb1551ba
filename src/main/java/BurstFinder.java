/**
 * A finder of dispersed radio bursts: power that is received in several channels is summed along
 * slanted lines, for all slopes at once by a tree of shifted sums, and boxes of such sums are
 * ranked by their significance.
 */
public final class BurstFinder {
    /** There is no such number. */
    public static final int NONE = -1;

    private static final int CHANNELS_AT_FIRST = 4;
    private static final int MOST_CHANNELS = 16;
    private static final int MOST_COLUMNS = 48;
    private static final int MOST_POWER = 9999;
    private static final int MOST_WIDTH = 8;
    private static final int MOST_CANDIDATES = 8;
    private static final int MOST_CODES = 64;
    private static final int LEAST_CODE = 32;
    private static final int GREATEST_CODE = 126;
    private static final int COUNTS = 5;
    private static final int PROPERTIES = 5;
    private static final long HASH_AT_FIRST = 1867;

    private final Data data;
    private final Text text;
    private final Lines lines;
    private final Candidates found;

    public BurstFinder() {
        data = new Data();
        text = new Text();
        lines = new Lines();
        found = new Candidates();
    }

    // ---- data

    public int setChannels(int channels) throws IllegalArgumentException {
        if (channels != 2 && channels != 4 && channels != 8 && channels != 16) {
            throw new IllegalArgumentException("channels is not 2, 4, 8 or 16");
        }
        int before = data.channels;
        data.beginAnew(channels);
        forgetResults();
        return before;
    }

    public int setPending(int channel, int power)
            throws IndexOutOfBoundsException, IllegalArgumentException {
        requireChannel(channel);
        if (power < 0 || power > MOST_POWER) {
            throw new IllegalArgumentException("power is not 0 to 9999");
        }
        int before = data.pending[channel];
        data.pending[channel] = power;
        return before;
    }

    public int advance() {
        data.takePending();
        forgetResults();
        return data.columns;
    }

    public int append(int code) throws IllegalArgumentException, IllegalStateException {
        if (code < LEAST_CODE || code > GREATEST_CODE) {
            throw new IllegalArgumentException("code is not 32 to 126");
        }
        if (text.length >= MOST_CODES) {
            throw new IllegalStateException("the buffer is full");
        }
        text.codes[text.length] = code;
        text.length++;
        return text.length;
    }

    public int clearInput() {
        int before = text.length;
        text.length = 0;
        return before;
    }

    public int firstError() {
        return text.indexOfFirstError();
    }

    public int load() throws IllegalStateException {
        int many = text.countColumns(data.channels);
        if (many < 1) {
            throw new IllegalStateException("the buffer does not consist of whole columns");
        }
        for (int index = 0; index < many; index++) {
            data.takeColumn(text, index * data.channels);
        }
        text.length = 0;
        forgetResults();
        return many;
    }

    public int inject(int slope, int column, int amplitude)
            throws IndexOutOfBoundsException, IllegalArgumentException {
        requireLines(slope, column, 1);
        if (amplitude < 1 || amplitude > MOST_POWER) {
            throw new IllegalArgumentException("amplitude is not 1 to 9999");
        }
        int added = 0;
        for (int channel = 0; channel < data.channels; channel++) {
            int shift = straightOffset(data.channels, slope, channel);
            added += data.raise(channel, column + shift, amplitude);
        }
        forgetResults();
        return added;
    }

    public int power(int channel, int column) throws IndexOutOfBoundsException {
        requireChannel(channel);
        requireColumn(column);
        return data.powerAt(channel, column);
    }

    public int count(int what) throws IllegalArgumentException {
        switch (what) {
            case 0:
                return data.channels;
            case 1:
                return data.columns;
            case 2:
                return data.dropped;
            case 3:
                return data.countMasked();
            case 4:
                return found.many;
            default:
                throw new IllegalArgumentException("what is not 0 to 4");
        }
    }

    // ---- interference

    public boolean setMasked(int channel, boolean masked) throws IndexOutOfBoundsException {
        requireChannel(channel);
        boolean before = data.masked[channel];
        data.masked[channel] = masked;
        forgetResults();
        return before;
    }

    public int channelSum(int channel) throws IndexOutOfBoundsException {
        requireChannel(channel);
        return data.sumOfChannel(channel);
    }

    public int strike(int many) throws IllegalArgumentException {
        if (many < 0 || many > data.channels) {
            throw new IllegalArgumentException("many is not 0 to the number of channels");
        }
        int struck = 0;
        for (int turn = 0; turn < many; turn++) {
            int channel = data.loudestUnmasked();
            if (channel == NONE) {
                break;
            }
            data.masked[channel] = true;
            struck |= 1 << channel;
        }
        forgetResults();
        return struck;
    }

    // ---- lines

    public int offset(int slope, int channel, boolean straight) throws IndexOutOfBoundsException {
        requireSlope(slope);
        requireChannel(channel);
        return straight
                ? straightOffset(data.channels, slope, channel)
                : treeOffset(data.channels, slope, channel);
    }

    public int bend(int slope) throws IndexOutOfBoundsException {
        requireSlope(slope);
        return greatestBend(data.channels, slope);
    }

    public int lineSum(int slope, int column, boolean straight) throws IndexOutOfBoundsException {
        requireLines(slope, column, 1);
        if (straight) {
            return straightSum(slope, column);
        }
        lines.refresh(data);
        return lines.sumAt(slope, column);
    }

    public double mean(int slope) throws IndexOutOfBoundsException {
        requireSlope(slope);
        lines.refresh(data);
        int many = lines.linesOf(slope);
        if (many < 1) {
            return 0.0;
        }
        return (double) lines.totals[slope] / (double) many;
    }

    // ---- boxes

    public int boxSum(int slope, int column, int width)
            throws IllegalArgumentException, IndexOutOfBoundsException {
        requireWidth(width);
        requireLines(slope, column, width);
        lines.refresh(data);
        return lines.sumOfBox(slope, column, width);
    }

    public long score(int slope, int column, int width)
            throws IllegalArgumentException, IndexOutOfBoundsException {
        requireWidth(width);
        requireLines(slope, column, width);
        lines.refresh(data);
        return lines.scoreOf(slope, width, lines.sumOfBox(slope, column, width));
    }

    public int find(long threshold, int width) throws IllegalArgumentException {
        if (threshold < 0) {
            throw new IllegalArgumentException("threshold is negative");
        }
        requireWidth(width);
        lines.refresh(data);
        found.many = 0;
        // A score of 0 never makes a candidate, whatever the threshold is.
        long least = Math.max(threshold, 1L);
        for (int turn = 0; turn < MOST_CANDIDATES; turn++) {
            if (!found.addBest(lines, least, width)) {
                break;
            }
        }
        return found.many;
    }

    public long candidate(int index, int what)
            throws IndexOutOfBoundsException, IllegalArgumentException {
        if (index < 0 || index >= found.many) {
            throw new IndexOutOfBoundsException("no such candidate");
        }
        switch (what) {
            case 0:
                return found.slopes[index];
            case 1:
                return found.columns[index];
            case 2:
                return found.widths[index];
            case 3:
                return found.scores[index];
            case 4:
                return found.columns[index] + data.dropped;
            default:
                throw new IllegalArgumentException("what is not 0 to 4");
        }
    }

    public int candidateAt(int column) throws IndexOutOfBoundsException {
        requireColumn(column);
        return found.firstWith(column);
    }

    public long digest() {
        lines.refresh(data);
        long hash = HASH_AT_FIRST;
        for (int what = 0; what < COUNTS; what++) {
            hash = mix(hash, count(what));
        }
        hash = mixChannels(hash);
        hash = mixColumns(hash);
        hash = mixSlopes(hash);
        hash = mixCandidates(hash);
        return mixText(hash);
    }

    // ---- parts of the digest

    private static long mix(long hash, long value) {
        return 31 * hash + value;
    }

    private long mixChannels(long start) {
        long hash = start;
        for (int channel = 0; channel < data.channels; channel++) {
            hash = mix(hash, data.masked[channel] ? 1 : 0);
            hash = mix(hash, data.sumOfChannel(channel));
            hash = mix(hash, data.pending[channel]);
        }
        return hash;
    }

    private long mixColumns(long start) {
        long hash = start;
        for (int column = 0; column < data.columns; column++) {
            for (int channel = 0; channel < data.channels; channel++) {
                hash = mix(hash, data.powerAt(channel, column));
            }
        }
        return hash;
    }

    private long mixSlopes(long start) {
        long hash = start;
        for (int slope = 0; slope < data.channels; slope++) {
            hash = mix(hash, greatestBend(data.channels, slope));
            int many = lines.linesOf(slope);
            for (int column = 0; column < many; column++) {
                hash = mix(hash, lines.sumAt(slope, column));
            }
        }
        return hash;
    }

    private long mixCandidates(long start) {
        long hash = start;
        for (int index = 0; index < found.many; index++) {
            for (int what = 0; what < PROPERTIES; what++) {
                hash = mix(hash, candidate(index, what));
            }
        }
        return hash;
    }

    private long mixText(long start) {
        long hash = mix(start, text.length);
        for (int index = 0; index < text.length; index++) {
            hash = mix(hash, text.codes[index]);
        }
        return hash;
    }

    // ---- what the calls require

    private void requireChannel(int channel) {
        if (channel < 0 || channel >= data.channels) {
            throw new IndexOutOfBoundsException("no such channel");
        }
    }

    private void requireColumn(int column) {
        if (column < 0 || column >= data.columns) {
            throw new IndexOutOfBoundsException("no such column");
        }
    }

    private void requireSlope(int slope) {
        if (slope < 0 || slope >= data.channels) {
            throw new IndexOutOfBoundsException("no such slope");
        }
    }

    private static void requireWidth(int width) {
        if (width < 1 || width > MOST_WIDTH) {
            throw new IllegalArgumentException("width is not 1 to 8");
        }
    }

    /** Requires that many lines in a row exist; many is small, so that nothing here overflows. */
    private void requireLines(int slope, int column, int many) {
        requireSlope(slope);
        if (column < 0 || column > data.columns - slope - many) {
            throw new IndexOutOfBoundsException("no such line");
        }
    }

    /** Everything that is computed from the data is old once the data or the masks are touched. */
    private void forgetResults() {
        lines.fresh = false;
        found.many = 0;
    }

    // ---- offsets

    private static int treeOffset(int channels, int slope, int channel) {
        int shift = 0;
        int slopeInBlock = slope;
        int channelInBlock = channel;
        for (int half = channels / 2; half >= 1; half /= 2) {
            int slopeOfHalf = slopeInBlock / 2;
            if (channelInBlock >= half) {
                shift += slopeInBlock - slopeOfHalf;
                channelInBlock -= half;
            }
            slopeInBlock = slopeOfHalf;
        }
        return shift;
    }

    private static int straightOffset(int channels, int slope, int channel) {
        int steps = channels - 1;
        if (steps < 1) {
            return 0;
        }
        // Doubled, so that the half that rounds up at the middle is a whole number.
        return (2 * slope * channel + steps) / (2 * steps);
    }

    private static int greatestBend(int channels, int slope) {
        int greatest = 0;
        for (int channel = 0; channel < channels; channel++) {
            int tree = treeOffset(channels, slope, channel);
            int straight = straightOffset(channels, slope, channel);
            greatest = Math.max(greatest, Math.abs(tree - straight));
        }
        return greatest;
    }

    private int straightSum(int slope, int column) {
        int sum = 0;
        for (int channel = 0; channel < data.channels; channel++) {
            if (!data.masked[channel]) {
                int shift = straightOffset(data.channels, slope, channel);
                sum += data.powerAt(channel, column + shift);
            }
        }
        return sum;
    }

    /** The columns that are kept, the pending column and the masks. */
    private static final class Data {
        private int channels = CHANNELS_AT_FIRST;
        private int columns = 0;
        private int dropped = 0;
        /** Column after column, each with room for the most channels, so that one copy drops one. */
        private final int[] powers = new int[MOST_COLUMNS * MOST_CHANNELS];
        private final int[] pending = new int[MOST_CHANNELS];
        private final boolean[] masked = new boolean[MOST_CHANNELS];

        private void beginAnew(int newChannels) {
            channels = newChannels;
            columns = 0;
            dropped = 0;
            for (int channel = 0; channel < MOST_CHANNELS; channel++) {
                pending[channel] = 0;
                masked[channel] = false;
            }
        }

        private int powerAt(int channel, int column) {
            return powers[column * MOST_CHANNELS + channel];
        }

        /** Makes room for one more column and returns where it begins among the powers. */
        private int openColumn() {
            if (columns >= MOST_COLUMNS) {
                System.arraycopy(powers, MOST_CHANNELS, powers, 0,
                        (MOST_COLUMNS - 1) * MOST_CHANNELS);
                dropped++;
            } else {
                columns++;
            }
            return (columns - 1) * MOST_CHANNELS;
        }

        private void takePending() {
            int begin = openColumn();
            for (int channel = 0; channel < channels; channel++) {
                powers[begin + channel] = pending[channel];
                pending[channel] = 0;
            }
        }

        private void takeColumn(Text text, int start) {
            int begin = openColumn();
            for (int channel = 0; channel < channels; channel++) {
                powers[begin + channel] = Text.powerOf(text.codes[start + channel]);
            }
        }

        /** Adds to a power as far as the greatest power allows, and returns what was added. */
        private int raise(int channel, int column, int amplitude) {
            int cell = column * MOST_CHANNELS + channel;
            int added = Math.min(amplitude, MOST_POWER - powers[cell]);
            powers[cell] += added;
            return added;
        }

        private int countMasked() {
            int many = 0;
            for (int channel = 0; channel < channels; channel++) {
                if (masked[channel]) {
                    many++;
                }
            }
            return many;
        }

        private int sumOfChannel(int channel) {
            int sum = 0;
            for (int column = 0; column < columns; column++) {
                sum += powerAt(channel, column);
            }
            return sum;
        }

        /** Returns the lowest unmasked channel with the greatest sum, NONE if all are masked. */
        private int loudestUnmasked() {
            int loudest = NONE;
            int greatest = NONE;
            for (int channel = 0; channel < channels; channel++) {
                if (!masked[channel]) {
                    int sum = sumOfChannel(channel);
                    if (sum > greatest) {
                        greatest = sum;
                        loudest = channel;
                    }
                }
            }
            return loudest;
        }
    }

    /** The input buffer. */
    private static final class Text {
        private int length = 0;
        private final int[] codes = new int[MOST_CODES];

        /** Returns the power that a character stands for, NONE if it is not a power. */
        private static int powerOf(int code) {
            if (code >= '0' && code <= '9') {
                return code - '0';
            }
            if (code >= 'A' && code <= 'Z') {
                return code - 'A' + 10;
            }
            return NONE;
        }

        private int indexOfFirstError() {
            for (int index = 0; index < length; index++) {
                if (powerOf(codes[index]) == NONE) {
                    return index;
                }
            }
            return length;
        }

        /** Returns how many columns there are, 0 if there is anything else. */
        private int countColumns(int channels) {
            if (channels < 1 || length % channels != 0 || indexOfFirstError() < length) {
                return 0;
            }
            return length / channels;
        }
    }

    /** The line sums of all slopes, with what the scores need of them. */
    private static final class Lines {
        private boolean fresh = false;
        private int slopes = 0;
        private int columns = 0;
        /** A row for each slope; while the tree grows, a row for each slope of each block. */
        private int[] sums = new int[MOST_CHANNELS * MOST_COLUMNS];
        private int[] spare = new int[MOST_CHANNELS * MOST_COLUMNS];
        private final long[] totals = new long[MOST_CHANNELS];
        private final long[] spreads = new long[MOST_CHANNELS];

        private int sumAt(int slope, int column) {
            return sums[slope * MOST_COLUMNS + column];
        }

        private int linesOf(int slope) {
            return Math.max(0, columns - slope);
        }

        private void refresh(Data data) {
            if (fresh) {
                return;
            }
            slopes = data.channels;
            columns = data.columns;
            copyPowers(data);
            for (int half = 1; half < slopes; half *= 2) {
                joinBlocks(half);
            }
            for (int slope = 0; slope < slopes; slope++) {
                measure(slope);
            }
            fresh = true;
        }

        /** The leaves of the tree: blocks of one channel. A masked one counts as one without power. */
        private void copyPowers(Data data) {
            for (int channel = 0; channel < slopes; channel++) {
                for (int column = 0; column < columns; column++) {
                    sums[channel * MOST_COLUMNS + column] =
                            data.masked[channel] ? 0 : data.powerAt(channel, column);
                }
            }
        }

        /** Joins each two neighbours among the blocks of half channels into one block. */
        private void joinBlocks(int half) {
            for (int row = 0; row < slopes; row++) {
                // A block has as many rows as channels, a power of 2: the low bits are its slope.
                int slope = row & (2 * half - 1);
                joinRows(row - slope, half, slope);
            }
            int[] joined = spare;
            spare = sums;
            sums = joined;
        }

        private void joinRows(int block, int half, int slope) {
            int slopeOfHalf = slope / 2;
            int first = (block + slopeOfHalf) * MOST_COLUMNS;
            int second = (block + half + slopeOfHalf) * MOST_COLUMNS + slope - slopeOfHalf;
            int joined = (block + slope) * MOST_COLUMNS;
            int many = linesOf(slope);
            for (int column = 0; column < many; column++) {
                spare[joined + column] = sums[first + column] + sums[second + column];
            }
        }

        private void measure(int slope) {
            long total = 0;
            long squares = 0;
            int many = linesOf(slope);
            for (int column = 0; column < many; column++) {
                long sum = sumAt(slope, column);
                total += sum;
                squares += sum * sum;
            }
            totals[slope] = total;
            spreads[slope] = many * squares - total * total;
        }

        private int sumOfBox(int slope, int column, int width) {
            int sum = 0;
            for (int line = column; line < column + width; line++) {
                sum += sumAt(slope, line);
            }
            return sum;
        }

        /** With the document's limits 1000 * excess * excess stays below 2^62. */
        private long scoreOf(int slope, int width, long boxSum) {
            long excess = linesOf(slope) * boxSum - width * totals[slope];
            long divisor = width * spreads[slope];
            if (excess <= 0 || divisor <= 0) {
                return 0;
            }
            return 1000 * excess * excess / divisor;
        }
    }

    /** The candidates in the order in which they were found, and the search for the next one. */
    private static final class Candidates {
        private int many = 0;
        private final int[] slopes = new int[MOST_CANDIDATES];
        private final int[] columns = new int[MOST_CANDIDATES];
        private final int[] widths = new int[MOST_CANDIDATES];
        private final long[] scores = new long[MOST_CANDIDATES];
        /** For each column the first one from it on that is in a span or does not exist. */
        private final int[] freeEnds = new int[MOST_COLUMNS];

        private int firstWith(int column) {
            for (int index = 0; index < many; index++) {
                int last = columns[index] + widths[index] - 1 + slopes[index];
                if (column >= columns[index] && column <= last) {
                    return index;
                }
            }
            return NONE;
        }

        /** Adds the first box of the ranking that is still free; returns whether there is one. */
        private boolean addBest(Lines lines, long least, int mostWidth) {
            if (many >= MOST_CANDIDATES) {
                return false;
            }
            markFreeEnds(lines.columns);
            scores[many] = least - 1;
            for (int slope = 0; slope < lines.slopes; slope++) {
                int last = lines.linesOf(slope);
                for (int column = 0; column < last; column++) {
                    tryBoxes(lines, slope, column, mostWidth);
                }
            }
            if (scores[many] < least) {
                return false;
            }
            many++;
            return true;
        }

        private void markFreeEnds(int allColumns) {
            int end = allColumns;
            for (int column = allColumns - 1; column >= 0; column--) {
                if (firstWith(column) != NONE) {
                    end = column;
                }
                freeEnds[column] = end;
            }
        }

        /**
         * Tries the free boxes from a column. Boxes are tried by slope, column and width, so that
         * of several with equal scores the one that is tried first is the one that ranks first.
         */
        private void tryBoxes(Lines lines, int slope, int column, int mostWidth) {
            int widest = Math.min(mostWidth, freeEnds[column] - slope - column);
            long sum = 0;
            for (int width = 1; width <= widest; width++) {
                sum += lines.sumAt(slope, column + width - 1);
                long worth = lines.scoreOf(slope, width, sum);
                if (worth > scores[many]) {
                    slopes[many] = slope;
                    columns[many] = column;
                    widths[many] = width;
                    scores[many] = worth;
                }
            }
        }
    }
}
