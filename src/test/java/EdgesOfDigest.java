import java.math.BigInteger;

/** The boundary cases of promise 24, a test for each sentence. */
final class EdgesOfDigest {
    private EdgesOfDigest() {
    }

    /** Computed without a bound, and cut to 64 bits at the very end. */
    private static long hash(long... values) {
        BigInteger hash = BigInteger.valueOf(1867);
        for (long value : values) {
            hash = hash.multiply(BigInteger.valueOf(31)).add(BigInteger.valueOf(value));
        }
        return hash.longValue();
    }

    @Sentence(promise = 24, says = "Computes a hash of the whole state.")
    static void digestChangesNothing() {
        BurstFinder x = Make.withCandidate();
        x.append('!');
        x.setPending(1, 9999);
        long first = x.digest();
        Check.due("the same again", first, x::digest);
        Check.due("the candidate stays", "0 1 1 3000", () -> Edges.box(x, 0));
        Check.due("the pending power stays", 9999, () -> x.setPending(1, 9999));
        Check.due("the buffer stays", 1, x::clearInput);
        Check.due("without it another hash", false, () -> x.digest() == first);
    }

    @Sentence(promise = 24, says = "The hash starts as 1867; each value x replaces the hash by "
            + "31 * hash + x, in long arithmetic with overflow.")
    static void theHashTurnsRound() {
        BurstFinder least = Make.withChannels(2);
        // 5 counts, 3 values for each of 2 channels, 2 bends and the length: 14 steps, which is
        // enough to leave the range of long.
        Check.due("2 channels", hash(2, 0, 0, 0, 0, 0, 0, 0, 0, 0, 0, 0, 0, 0), least::digest);
        long[] values = new long[5 + 12 + 4 + 1 + 64];
        values[0] = 4;
        values[21] = 64;
        BurstFinder x = new BurstFinder();
        for (int i = 0; i < 64; i++) {
            values[22 + i] = 126;
            x.append(126);
        }
        Check.due("a full buffer of the greatest codes", hash(values), x::digest);
    }

    private static final String VALUES = "The values are, in this order: count for 0 to 4; for each "
            + "channel 1 if it is masked, else 0, its channelSum, and its power in the pending "
            + "column; for each column the powers of all channels; for each slope its bend, and the "
            + "line sums of all its lines by ascending columns; for each candidate its properties 0 "
            + "to 4; the length of the input buffer and each of its character codes.";

    @Sentence(promise = 24, says = VALUES)
    static void valuesOfAnEmptyState() {
        Check.due("a new object", hash(4, 0, 0, 0, 0, 0, 0, 0, 0, 0, 0, 0, 0, 0, 0, 0, 0,
                0, 0, 0, 0, 0), () -> new BurstFinder().digest());
        long[] values = new long[5 + 48 + 16 + 1];
        values[0] = 16;
        for (int slope : new int[] {3, 5, 6, 9, 10, 12}) {
            values[53 + slope] = 1;
        }
        Check.due("16 channels, bends without lines", hash(values),
                () -> Make.withChannels(16).digest());
    }

    @Sentence(promise = 24, says = VALUES)
    static void slopesWithoutLines() {
        BurstFinder x = Make.loaded(4, "1248", "ABCD");
        x.setMasked(3, true);
        x.setPending(3, 9999);
        x.append(' ');
        // Slope 0 has two lines, slope 1 has one, the slopes 2 and 3 have none.
        Check.due("two columns", hash(4, 2, 0, 1, 0,
                0, 11, 0, 0, 13, 0, 0, 16, 0, 1, 21, 9999,
                1, 2, 4, 8, 10, 11, 12, 13,
                0, 7, 33, 0, 15, 0, 0,
                1, 32), x::digest);
    }

    /** 60 columns, of which the last 48 are kept; 8 bursts so early that all slopes meet them. */
    private static void fill(BurstFinder x, PlainFinder p) {
        x.setChannels(16);
        p.setChannels(16);
        for (int i = 0; i < 60; i++) {
            boolean burst = i % 4 == 1 && i >= 12 && i < 44;
            int channel = burst ? 0 : i % 16;
            int power = burst ? 9999 - i : i % 3;
            x.setPending(channel, power);
            p.setPending(channel, power);
            x.advance();
            p.advance();
        }
        x.setPending(15, 9999);
        p.setPending(15, 9999);
        x.setMasked(14, true);
        p.setMasked(14, true);
        for (int i = 0; i < 64; i++) {
            x.append(32 + i);
            p.append(32 + i);
        }
    }

    @Sentence(promise = 24, says = VALUES)
    static void valuesOfAFullState() {
        BurstFinder x = new BurstFinder();
        PlainFinder p = new PlainFinder();
        fill(x, p);
        Check.due("without candidates", p.digest(), x::digest);
        Check.due("all columns", 48, () -> x.count(1));
        Check.due("the candidates", p.find(0, 1), () -> x.find(0, 1));
        Check.due("all that fit", 8, () -> x.count(4));
        Check.due("with candidates", p.digest(), x::digest);
    }
}
