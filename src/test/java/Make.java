/** Makes finders with data for the tests. */
final class Make {
    static final Class<?> INDEX = IndexOutOfBoundsException.class;
    static final Class<?> ARGUMENT = IllegalArgumentException.class;
    static final Class<?> STATE = IllegalStateException.class;

    /** Values at which an unguarded sum, product or index goes wrong. */
    static final int[] FAR = {Integer.MIN_VALUE, Integer.MIN_VALUE + 1, -100, -1, 100,
        Integer.MAX_VALUE - 20, Integer.MAX_VALUE - 1, Integer.MAX_VALUE};

    private Make() {
    }

    static BurstFinder withChannels(int channels) {
        BurstFinder x = new BurstFinder();
        x.setChannels(channels);
        return x;
    }

    static void write(BurstFinder x, String text) {
        for (int i = 0; i < text.length(); i++) {
            x.append(text.charAt(i));
        }
    }

    /** A finder with these columns, each written as its powers. */
    static BurstFinder loaded(int channels, String... columns) {
        BurstFinder x = withChannels(channels);
        addColumns(x, columns);
        return x;
    }

    static void addColumns(BurstFinder x, String... columns) {
        for (String column : columns) {
            write(x, column);
            x.load();
        }
    }

    /** A finder with 2 channels, the powers of channel 0 as given, those of channel 1 zero. */
    static BurstFinder series(int... powers) {
        BurstFinder x = withChannels(2);
        for (int power : powers) {
            x.setPending(0, power);
            x.advance();
        }
        return x;
    }

    /** A finder with 2 channels and this many columns; channel 0 has the powers 1, 2, 3, ... */
    static BurstFinder counted(int columns) {
        return series(Edges.inside(1, columns));
    }

    static BurstFinder empty(int channels, int columns) {
        BurstFinder x = withChannels(channels);
        addEmpty(x, columns);
        return x;
    }

    static void addEmpty(BurstFinder x, int many) {
        for (int i = 0; i < many; i++) {
            x.advance();
        }
    }

    /** A finder with 2 channels, 4 columns and one candidate: slope 0, column 1, width 1. */
    static BurstFinder withCandidate() {
        BurstFinder x = series(0, 9, 0, 0);
        x.find(0, 1);
        return x;
    }

    /** A full finder with up to 10 bursts in the columns 1, 6, 11, ..., the last the strongest. */
    static BurstFinder withBursts(int many) {
        int[] powers = new int[48];
        for (int i = 0; i < many; i++) {
            powers[5 * i + 1] = 100 + i;
        }
        return series(powers);
    }

    /**
     * A finder with 16 channels to which this many columns came, and then 8 lines of the greatest
     * slope from a column on. All channels but those at the ends are masked: otherwise flatter
     * slopes, of which more lines exist, would have greater scores.
     */
    static BurstFinder steepAndBroad(int columns, int from) {
        BurstFinder x = empty(16, columns);
        for (int column = from; column < from + 8; column++) {
            x.inject(15, column, 9999);
        }
        mask(x, Edges.inside(1, 14));
        return x;
    }

    static void mask(BurstFinder x, int... channels) {
        for (int channel : channels) {
            x.setMasked(channel, true);
        }
    }

    static void setAllPending(BurstFinder x, int power) {
        for (int channel = 0; channel < x.count(0); channel++) {
            x.setPending(channel, power);
        }
    }
}
