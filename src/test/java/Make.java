/** Makes finders with data for the tests. */
final class Make {
    static final Class<?> INDEX = IndexOutOfBoundsException.class;
    static final Class<?> ARGUMENT = IllegalArgumentException.class;
    static final Class<?> STATE = IllegalStateException.class;

    /** Values at which an unguarded sum, product or index goes wrong. */
    static final int[] FAR = {Integer.MIN_VALUE, Integer.MIN_VALUE + 1, -100, -1, 100,
        Integer.MAX_VALUE - 20, Integer.MAX_VALUE - 1, Integer.MAX_VALUE};

    private Make() {
    }

    static BurstFinder withChannels(int channels) {
        BurstFinder x = new BurstFinder();
        x.setChannels(channels);
        return x;
    }

    static void write(BurstFinder x, String text) {
        for (int i = 0; i < text.length(); i++) {
            x.append(text.charAt(i));
        }
    }

    /** A finder with these columns, each written as its powers. */
    static BurstFinder loaded(int channels, String... columns) {
        BurstFinder x = withChannels(channels);
        addColumns(x, columns);
        return x;
    }

    static void addColumns(BurstFinder x, String... columns) {
        for (String column : columns) {
            write(x, column);
            x.load();
        }
    }

    /** A finder with 2 channels, the powers of channel 0 as given, those of channel 1 zero. */
    static BurstFinder series(int... powers) {
        BurstFinder x = withChannels(2);
        for (int power : powers) {
            x.setPending(0, power);
            x.advance();
        }
        return x;
    }

    static void addEmpty(BurstFinder x, int many) {
        for (int i = 0; i < many; i++) {
            x.advance();
        }
    }
}
