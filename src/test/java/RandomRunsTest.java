import java.util.Random;

/**
 * Promises 1 to 24: seeded runs of up to 512 calls, good and wrong, each answer compared with
 * PlainFinder's, and the digest after each call that may change something.
 */
public final class RandomRunsTest {
    private static final int RUNS = 240;
    private static final int CALLS = 512;
    private static final int[] CHANNELS = {2, 4, 8, 16};
    private static final String GOOD = "0123456789ABCDEFGHIJKLMNOPQRSTUVWXYZ";

    private final Random random;
    private final String name;
    private final BurstFinder x = new BurstFinder();
    private final PlainFinder p = new PlainFinder();
    private int calls = 0;

    private RandomRunsTest(int run) {
        random = new Random(1867 + run);
        name = "run " + run;
    }

    private void same(String call, Check.Call mine, Check.Call plain) {
        calls++;
        Check.due(name + ", call " + calls + ": " + call, Check.answer(plain), mine);
    }

    /** A number around 0 to bound - 1, now and then outside of it, and seldom far outside. */
    private int near(int bound) {
        int dice = random.nextInt(40);
        if (dice == 0) {
            return Make.FAR[random.nextInt(Make.FAR.length)];
        }
        if (dice == 1) {
            return -1;
        }
        if (dice == 2) {
            return bound;
        }
        return random.nextInt(Math.max(1, bound));
    }

    private int somePower() {
        switch (random.nextInt(8)) {
            case 0:
                return 9999;
            case 1:
                return 10000 - random.nextInt(3);
            case 2:
                return random.nextInt(10000);
            case 3:
                return random.nextInt(3) - 1;
            default:
                return random.nextInt(50);
        }
    }

    private void fillPending() {
        int many = random.nextInt(p.count(0) + 1);
        for (int i = 0; i < many; i++) {
            int c = near(p.count(0));
            int power = somePower();
            same("setPending(" + c + ", " + power + ")",
                    () -> x.setPending(c, power), () -> p.setPending(c, power));
        }
    }

    private void write() {
        int many = random.nextInt(4) == 0 ? random.nextInt(70) : p.count(0) * (1 + random.nextInt(3));
        boolean dense = random.nextBoolean();
        for (int i = 0; i < many; i++) {
            int code = random.nextInt(90) == 0
                    ? random.nextInt(140) - 5
                    : GOOD.charAt(dense ? random.nextInt(36) : random.nextInt(2));
            same("append(" + code + ")", () -> x.append(code), () -> p.append(code));
        }
        same("firstError()", x::firstError, p::firstError);
    }

    private void changeData() {
        int dice = random.nextInt(20);
        if (dice == 0) {
            int n = random.nextInt(3) == 0 ? near(18) : CHANNELS[random.nextInt(4)];
            same("setChannels(" + n + ")", () -> x.setChannels(n), () -> p.setChannels(n));
        } else if (dice < 4) {
            fillPending();
        } else if (dice < 9) {
            same("advance()", x::advance, p::advance);
        } else if (dice < 12) {
            write();
        } else if (dice < 16) {
            same("load()", x::load, p::load);
        } else if (dice == 16) {
            same("clearInput()", x::clearInput, p::clearInput);
        } else {
            int d = near(p.count(0));
            int t = near(p.count(1));
            int a = somePower();
            same("inject(" + d + ", " + t + ", " + a + ")",
                    () -> x.inject(d, t, a), () -> p.inject(d, t, a));
        }
    }

    private void changeMasks() {
        if (random.nextInt(3) == 0) {
            int many = random.nextInt(4) == 0 ? near(p.count(0) + 1) : random.nextInt(3);
            same("strike(" + many + ")", () -> x.strike(many), () -> p.strike(many));
        } else {
            int c = near(p.count(0));
            boolean on = random.nextInt(3) == 0;
            same("setMasked(" + c + ", " + on + ")",
                    () -> x.setMasked(c, on), () -> p.setMasked(c, on));
        }
    }

    private void askData() {
        int c = near(p.count(0));
        int t = near(p.count(1));
        int what = near(5);
        same("power(" + c + ", " + t + ")", () -> x.power(c, t), () -> p.power(c, t));
        same("count(" + what + ")", () -> x.count(what), () -> p.count(what));
        same("channelSum(" + c + ")", () -> x.channelSum(c), () -> p.channelSum(c));
    }

    private void askLines() {
        int d = near(p.count(0));
        int c = near(p.count(0));
        int t = near(p.count(1));
        boolean s = random.nextBoolean();
        same("offset(" + d + ", " + c + ", " + s + ")",
                () -> x.offset(d, c, s), () -> p.offset(d, c, s));
        same("bend(" + d + ")", () -> x.bend(d), () -> p.bend(d));
        same("lineSum(" + d + ", " + t + ", " + s + ")",
                () -> x.lineSum(d, t, s), () -> p.lineSum(d, t, s));
        same("mean(" + d + ")", () -> x.mean(d), () -> p.mean(d));
    }

    private void askBoxes() {
        int d = near(p.count(0));
        int t = near(p.count(1));
        int w = near(8) + 1;
        String box = "(" + d + ", " + t + ", " + w + ")";
        same("boxSum" + box, () -> x.boxSum(d, t, w), () -> p.boxSum(d, t, w));
        same("score" + box, () -> x.score(d, t, w), () -> p.score(d, t, w));
    }

    private long someThreshold() {
        switch (random.nextInt(8)) {
            case 0:
                return -1;
            case 1:
                return Long.MAX_VALUE;
            case 2:
                return Long.MIN_VALUE;
            case 3:
                return random.nextInt(20000);
            default:
                return random.nextInt(1500);
        }
    }

    private void findAndAsk() {
        long least = someThreshold();
        int w = near(8) + 1;
        same("find(" + least + ", " + w + ")", () -> x.find(least, w), () -> p.find(least, w));
        int i = near(p.count(4));
        int what = near(5);
        int t = near(p.count(1));
        same("candidate(" + i + ", " + what + ")",
                () -> x.candidate(i, what), () -> p.candidate(i, what));
        same("candidateAt(" + t + ")", () -> x.candidateAt(t), () -> p.candidateAt(t));
    }

    private void run() {
        int favourite = random.nextInt(6);
        if (favourite < 4) {
            same("setChannels()", () -> x.setChannels(CHANNELS[favourite]),
                    () -> p.setChannels(CHANNELS[favourite]));
        }
        while (calls < CALLS - 80) {
            int dice = random.nextInt(24);
            if (dice < 15) {
                changeData();
            } else if (dice < 17) {
                changeMasks();
            } else if (dice < 19) {
                askData();
            } else if (dice < 21) {
                askLines();
            } else if (dice < 23) {
                askBoxes();
            } else {
                findAndAsk();
            }
            if (random.nextInt(3) == 0) {
                same("digest()", x::digest, p::digest);
            }
        }
    }

    public static void main(String[] args) {
        for (int run = 0; run < RUNS; run++) {
            new RandomRunsTest(run).run();
        }
        Check.finish("RandomRunsTest");
    }
}
