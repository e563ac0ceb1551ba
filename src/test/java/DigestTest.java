import java.util.HashSet;
import java.util.Set;

/** Promise 24: the digest. */
public final class DigestTest {
    private DigestTest() {
    }

    private static long hash(long... values) {
        long hash = 1867;
        for (long x : values) {
            hash = 31 * hash + x;
        }
        return hash;
    }

    private static void ofANewObject() {
        BurstFinder x = new BurstFinder();
        Check.due("24: new", hash(
                4, 0, 0, 0, 0,
                0, 0, 0, 0, 0, 0, 0, 0, 0, 0, 0, 0,
                0, 0, 0, 0,
                0), x::digest);
    }

    private static void ofAFullState() {
        BurstFinder x = Make.loaded(2, "12", "9A", "00");
        x.setMasked(1, true);
        x.setPending(0, 7);
        x.setPending(1, 8);
        x.find(0, 1);
        Make.write(x, "~ 5");
        // Line sums of slope 0: 1 9 0; of slope 1: 1 9. N = 3, S = 10, Q = 82, v = 146, e = 17.
        // The score is 1000 * 289 / 146 = 1979; the first column is left, but is below the mean.
        Check.due("24: full", hash(
                2, 3, 0, 1, 1,
                0, 10, 7, 1, 12, 8,
                1, 2, 9, 10, 0, 0,
                0, 1, 9, 0, 0, 1, 9,
                0, 1, 1, 1979, 1,
                3, 126, 32, 53), x::digest);
        Check.due("24: changes nothing", x.digest(), x::digest);
        Check.due("24: nor the candidates", 1, () -> x.count(4));
    }

    private static void ofDroppedColumns() {
        BurstFinder x = Make.withChannels(2);
        Make.addEmpty(x, 50);
        long[] values = new long[5 + 6 + 96 + 1 + 48 + 1 + 47 + 1];
        values[0] = 2;
        values[1] = 48;
        values[2] = 2;
        Check.due("24: dropped", hash(values), x::digest);
    }

    private static void ofBends() {
        long[] values = new long[5 + 48 + 16 + 1];
        values[0] = 16;
        for (int slope : new int[] {3, 5, 6, 9, 10, 12}) {
            values[53 + slope] = 1;
        }
        Check.due("24: bends", hash(values), () -> Make.withChannels(16).digest());
    }

    /** Each of these changes must show in the digest. */
    private static void seesEachChange() {
        Set<Long> seen = new HashSet<>();
        BurstFinder x = Make.series(0, 9, 0, 0);
        seen.add(x.digest());
        x.find(0, 1);
        seen.add(x.digest());
        x.setPending(1, 3);
        seen.add(x.digest());
        x.append('Z');
        seen.add(x.digest());
        x.append('0');
        seen.add(x.digest());
        x.setMasked(1, true);
        seen.add(x.digest());
        x.inject(1, 0, 2);
        seen.add(x.digest());
        x.load();
        seen.add(x.digest());
        x.advance();
        seen.add(x.digest());
        x.strike(1);
        seen.add(x.digest());
        x.setChannels(4);
        seen.add(x.digest());
        Check.due("24: different digests", 11, seen::size);
    }

    /** A call that throws changes nothing: seen by the digest before and after. */
    private static void wrongCallsChangeNothing() {
        BurstFinder x = Make.loaded(4, "1234", "ZZZZ", "0000", "0100", "0010");
        x.setMasked(2, true);
        x.setPending(1, 44);
        x.find(0, 3);
        Make.write(x, "12a");
        long before = x.digest();
        Check.Call[] calls = {
            () -> x.setChannels(7), () -> x.setPending(4, 1), () -> x.setPending(0, 10000),
            () -> x.append(31), x::load, () -> x.inject(4, 0, 1), () -> x.inject(0, 5, 1),
            () -> x.inject(0, 0, 0), () -> x.power(0, 5), () -> x.count(5),
            () -> x.setMasked(4, true), () -> x.channelSum(4), () -> x.strike(5),
            () -> x.offset(4, 0, true), () -> x.bend(4), () -> x.lineSum(3, 2, false),
            () -> x.mean(4), () -> x.boxSum(0, 0, 9), () -> x.boxSum(0, 5, 1),
            () -> x.score(0, 0, 9), () -> x.score(0, 5, 1), () -> x.find(-1, 1),
            () -> x.find(0, 9), () -> x.candidate(8, 0), () -> x.candidate(0, 5),
            () -> x.candidateAt(5),
        };
        for (int i = 0; i < calls.length; i++) {
            int number = i;
            Check.due("24: call " + i + " throws", true,
                    () -> Check.answer(calls[number]) instanceof Class);
            Check.due("24: digest after call " + i, before, x::digest);
        }
    }

    public static void main(String[] args) {
        ofANewObject();
        ofAFullState();
        ofDroppedColumns();
        ofBends();
        seesEachChange();
        wrongCallsChangeNothing();
        Check.finish("DigestTest");
    }
}
