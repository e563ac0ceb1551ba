import java.math.BigInteger;
import java.util.ArrayList;
import java.util.Comparator;
import java.util.List;

/**
 * The document's words once more, as slowly and as plainly as they can be written, to compare
 * answers with. It shares no way of computing with BurstFinder: lines are summed cell by cell, the
 * offsets are recursive, scores use BigInteger, and all boxes are listed and sorted.
 */
final class PlainFinder {
    record Box(int slope, int column, int width, long score) {
        int last() {
            return column + width - 1 + slope;
        }

        boolean meets(Box other) {
            return column <= other.last() && other.column <= last();
        }
    }

    private static final String DIGITS = "0123456789ABCDEFGHIJKLMNOPQRSTUVWXYZ";

    private int channels = 4;
    private List<int[]> columns = new ArrayList<>();
    private int dropped = 0;
    private int[] pending = new int[4];
    private boolean[] masked = new boolean[4];
    private final StringBuilder text = new StringBuilder();
    private List<Box> candidates = new ArrayList<>();

    private static void index(boolean good) {
        if (!good) {
            throw new IndexOutOfBoundsException();
        }
    }

    private static void argument(boolean good) {
        if (!good) {
            throw new IllegalArgumentException();
        }
    }

    private static void state(boolean good) {
        if (!good) {
            throw new IllegalStateException();
        }
    }

    private boolean isChannel(long c) {
        return 0 <= c && c < channels;
    }

    private boolean isColumn(long t) {
        return 0 <= t && t < columns.size();
    }

    private boolean isLine(long d, long t) {
        return isChannel(d) && t >= 0 && isColumn(t + d);
    }

    private boolean isBox(long d, long t, long w) {
        for (long i = 0; i < w; i++) {
            if (!isLine(d, t + i)) {
                return false;
            }
        }
        return true;
    }

    private void addColumn(int[] column) {
        columns.add(column);
        if (columns.size() > 48) {
            columns.remove(0);
            dropped++;
        }
    }

    int setChannels(int n) {
        argument(List.of(2, 4, 8, 16).contains(n));
        int before = channels;
        channels = n;
        columns = new ArrayList<>();
        dropped = 0;
        pending = new int[n];
        masked = new boolean[n];
        candidates.clear();
        return before;
    }

    int setPending(int channel, int power) {
        index(isChannel(channel));
        argument(0 <= power && power <= 9999);
        int before = pending[channel];
        pending[channel] = power;
        return before;
    }

    int advance() {
        addColumn(pending);
        pending = new int[channels];
        candidates.clear();
        return columns.size();
    }

    int append(int code) {
        argument(32 <= code && code <= 126);
        state(text.length() < 64);
        text.append((char) code);
        return text.length();
    }

    int clearInput() {
        int before = text.length();
        text.setLength(0);
        return before;
    }

    int firstError() {
        int i = 0;
        while (i < text.length() && DIGITS.indexOf(text.charAt(i)) >= 0) {
            i++;
        }
        return i;
    }

    int load() {
        state(text.length() > 0);
        state(firstError() == text.length());
        state(text.length() % channels == 0);
        int many = text.length() / channels;
        for (int k = 0; k < many; k++) {
            int[] column = new int[channels];
            for (int c = 0; c < channels; c++) {
                column[c] = DIGITS.indexOf(text.charAt(k * channels + c));
            }
            addColumn(column);
        }
        text.setLength(0);
        candidates.clear();
        return many;
    }

    int inject(int slope, int column, int amplitude) {
        index(isChannel(slope) && isColumn(column) && isColumn((long) column + slope));
        argument(1 <= amplitude && amplitude <= 9999);
        int added = 0;
        for (int c = 0; c < channels; c++) {
            int[] cells = columns.get(column + straight(slope, c));
            int after = Math.min(9999, cells[c] + amplitude);
            added += after - cells[c];
            cells[c] = after;
        }
        candidates.clear();
        return added;
    }

    int power(int channel, int column) {
        index(isChannel(channel) && isColumn(column));
        return columns.get(column)[channel];
    }

    int count(int what) {
        argument(0 <= what && what <= 4);
        int many = 0;
        for (boolean m : masked) {
            many += m ? 1 : 0;
        }
        return new int[] {channels, columns.size(), dropped, many, candidates.size()}[what];
    }

    boolean setMasked(int channel, boolean on) {
        index(isChannel(channel));
        boolean before = masked[channel];
        masked[channel] = on;
        candidates.clear();
        return before;
    }

    int channelSum(int channel) {
        index(isChannel(channel));
        int sum = 0;
        for (int[] column : columns) {
            sum += column[channel];
        }
        return sum;
    }

    int strike(int many) {
        argument(0 <= many && many <= channels);
        List<Integer> open = new ArrayList<>();
        for (int c = 0; c < channels; c++) {
            if (!masked[c]) {
                open.add(c);
            }
        }
        open.sort(Comparator.comparing((Integer c) -> -channelSum(c)).thenComparing(c -> c));
        int set = 0;
        for (int c : open.subList(0, Math.min(many, open.size()))) {
            masked[c] = true;
            set += 1 << c;
        }
        candidates.clear();
        return set;
    }

    private static int tree(int m, int d, int c) {
        if (m == 1) {
            return 0;
        }
        int e = d / 2;
        return c < m / 2 ? tree(m / 2, e, c) : tree(m / 2, e, c - m / 2) + d - e;
    }

    private int straight(int d, int c) {
        return (int) Math.floor((double) (d * c) / (channels - 1) + 0.5);
    }

    int offset(int slope, int channel, boolean straight) {
        index(isChannel(slope) && isChannel(channel));
        return straight ? straight(slope, channel) : tree(channels, slope, channel);
    }

    int bend(int slope) {
        index(isChannel(slope));
        int most = 0;
        for (int c = 0; c < channels; c++) {
            most = Math.max(most, Math.abs(offset(slope, c, false) - offset(slope, c, true)));
        }
        return most;
    }

    int lineSum(int slope, int column, boolean straight) {
        index(isLine(slope, column));
        int sum = 0;
        for (int c = 0; c < channels; c++) {
            if (!masked[c]) {
                sum += columns.get(column + offset(slope, c, straight))[c];
            }
        }
        return sum;
    }

    private List<Long> lineSums(int slope) {
        List<Long> sums = new ArrayList<>();
        for (int t = 0; isLine(slope, t); t++) {
            sums.add((long) lineSum(slope, t, false));
        }
        return sums;
    }

    double mean(int slope) {
        index(isChannel(slope));
        List<Long> sums = lineSums(slope);
        double total = 0;
        for (long sum : sums) {
            total += sum;
        }
        return sums.isEmpty() ? 0.0 : total / sums.size();
    }

    int boxSum(int slope, int column, int width) {
        argument(1 <= width && width <= 8);
        index(isChannel(slope) && isBox(slope, column, width));
        int sum = 0;
        for (int i = 0; i < width; i++) {
            sum += lineSum(slope, column + i, false);
        }
        return sum;
    }

    long score(int slope, int column, int width) {
        return score(lineSums(slope), boxSum(slope, column, width), width);
    }

    private static long score(List<Long> sums, long boxSum, int width) {
        BigInteger n = BigInteger.valueOf(sums.size());
        BigInteger w = BigInteger.valueOf(width);
        BigInteger s = BigInteger.ZERO;
        BigInteger q = BigInteger.ZERO;
        for (long sum : sums) {
            s = s.add(BigInteger.valueOf(sum));
            q = q.add(BigInteger.valueOf(sum).pow(2));
        }
        BigInteger v = n.multiply(q).subtract(s.pow(2));
        BigInteger e = n.multiply(BigInteger.valueOf(boxSum)).subtract(w.multiply(s));
        if (e.signum() <= 0 || v.signum() <= 0) {
            return 0;
        }
        return BigInteger.valueOf(1000).multiply(e.pow(2)).divide(w.multiply(v)).longValueExact();
    }

    private List<Box> ranking(int greatestWidth) {
        List<Box> boxes = new ArrayList<>();
        for (int d = 0; d < channels; d++) {
            List<Long> sums = lineSums(d);
            for (int t = 0; t < sums.size(); t++) {
                long boxSum = 0;
                for (int w = 1; w <= greatestWidth && isBox(d, t, w); w++) {
                    boxSum += sums.get(t + w - 1);
                    boxes.add(new Box(d, t, w, score(sums, boxSum, w)));
                }
            }
        }
        boxes.sort(Comparator.comparing((Box b) -> -b.score()).thenComparing(Box::slope)
                .thenComparing(Box::column).thenComparing(Box::width));
        return boxes;
    }

    int find(long threshold, int width) {
        argument(threshold >= 0);
        argument(1 <= width && width <= 8);
        List<Box> chosen = new ArrayList<>();
        for (Box box : ranking(width)) {
            boolean apart = chosen.stream().noneMatch(box::meets);
            if (chosen.size() < 8 && box.score() != 0 && box.score() >= threshold && apart) {
                chosen.add(box);
            }
        }
        candidates = chosen;
        return chosen.size();
    }

    long candidate(int number, int what) {
        index(0 <= number && number < candidates.size());
        argument(0 <= what && what <= 4);
        Box b = candidates.get(number);
        return new long[] {b.slope(), b.column(), b.width(), b.score(), b.column() + dropped}[what];
    }

    int candidateAt(int column) {
        index(isColumn(column));
        for (int i = 0; i < candidates.size(); i++) {
            if (candidates.get(i).column() <= column && column <= candidates.get(i).last()) {
                return i;
            }
        }
        return -1;
    }

    private List<Long> stateValues() {
        List<Long> values = new ArrayList<>();
        for (int what = 0; what <= 4; what++) {
            values.add((long) count(what));
        }
        for (int c = 0; c < channels; c++) {
            values.add(masked[c] ? 1L : 0L);
            values.add((long) channelSum(c));
            values.add((long) pending[c]);
        }
        for (int[] column : columns) {
            for (int power : column) {
                values.add((long) power);
            }
        }
        for (int d = 0; d < channels; d++) {
            values.add((long) bend(d));
            values.addAll(lineSums(d));
        }
        for (int i = 0; i < candidates.size(); i++) {
            for (int what = 0; what <= 4; what++) {
                values.add(candidate(i, what));
            }
        }
        values.add((long) text.length());
        for (int i = 0; i < text.length(); i++) {
            values.add((long) text.charAt(i));
        }
        return values;
    }

    long digest() {
        long hash = 1867;
        for (long x : stateValues()) {
            hash = 31 * hash + x;
        }
        return hash;
    }
}
