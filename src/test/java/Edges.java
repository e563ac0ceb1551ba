import java.util.Arrays;
import java.util.stream.IntStream;

/** What the tests of boundary cases share: the values at a boundary, and calls with each of them. */
final class Edges {
    static final int[] CHANNEL_NUMBERS = {2, 4, 8, 16};
    static final boolean[] BOTH = {false, true};

    interface CallWith {
        Object run(int value);
    }

    private Edges() {
    }

    /** All numbers from least to greatest. */
    static int[] inside(int least, int greatest) {
        return IntStream.rangeClosed(least, greatest).toArray();
    }

    static int[] from0Below(int bound) {
        return inside(0, bound - 1);
    }

    /**
     * The neighbours of a range and numbers far off: those at which a sum in int arithmetic turns
     * round, and those that a cast to a byte or a short would bring into the range.
     */
    static int[] outside(int least, int greatest) {
        int[] far = {least - 1, greatest + 1, least - 2, greatest + 2, -greatest - 1,
            least + 256, greatest - 256, least + 65536, greatest - 65536,
            Integer.MIN_VALUE, Integer.MIN_VALUE + 1, Integer.MIN_VALUE + greatest,
            Integer.MAX_VALUE, Integer.MAX_VALUE - 1, Integer.MAX_VALUE - 7,
            Integer.MAX_VALUE - greatest};
        return Arrays.stream(far).filter(v -> v < least || v > greatest).distinct().toArray();
    }

    /** Each of the values gives this answer, or this exception. */
    static void due(String what, Object want, int[] values, CallWith call) {
        for (int value : values) {
            Check.due(what + " " + value, want, () -> call.run(value));
        }
    }

    /** Each of the values is refused, and the state after all of that is the one before. */
    static void refused(BurstFinder x, String what, Class<?> want, int[] values, CallWith call) {
        long before = x.digest();
        due(what, want, values, call);
        Check.due(what + ": the state is as before", before, x::digest);
    }

    /** The properties 0 to 3 of a candidate, joined, so that one check shows all of it. */
    static String box(BurstFinder x, int index) {
        return x.candidate(index, 0) + " " + x.candidate(index, 1) + " "
                + x.candidate(index, 2) + " " + x.candidate(index, 3);
    }
}
