/** Promises 1 to 11: the object, its columns and its input text. */
public final class DataTest {
    private DataTest() {
    }

    private static void dueCounts(String when, BurstFinder x, int... want) {
        for (int what = 0; what < want.length; what++) {
            int w = what;
            Check.due(when + ": count(" + w + ")", want[w], () -> x.count(w));
        }
    }

    private static void promise1NewObject() {
        BurstFinder x = new BurstFinder();
        dueCounts("1: new", x, 4, 0, 0, 0, 0);
        Check.due("1: buffer", 0, x::clearInput);
        for (int c = 0; c < 4; c++) {
            int channel = c;
            Check.due("1: pending " + c, 0, () -> x.setPending(channel, 0));
            Check.due("1: masked " + c, false, () -> x.setMasked(channel, false));
        }
        Check.due("1: channel 4", Make.INDEX, () -> x.channelSum(4));
        BurstFinder other = new BurstFinder();
        x.append('7');
        x.setPending(0, 3);
        x.advance();
        dueCounts("1: another object", other, 4, 0, 0, 0, 0);
        Check.due("1: another object's buffer", 0, other::clearInput);
    }

    private static void promise2SetChannels() {
        BurstFinder x = new BurstFinder();
        int before = 4;
        for (int n : new int[] {2, 2, 16, 8, 4, 16, 2}) {
            int due = before;
            Check.due("2: setChannels(" + n + ")", due, () -> x.setChannels(n));
            Check.due("2: channels", n, () -> x.count(0));
            before = n;
        }
        int[] bad = {0, 1, 3, 5, 6, 7, 9, 12, 15, 17, 32, 64, -2, -4, -16};
        for (int n : bad) {
            Check.due("2: setChannels(" + n + ")", Make.ARGUMENT, () -> x.setChannels(n));
        }
        for (int n : Make.FAR) {
            Check.due("2: setChannels(" + n + ")", Make.ARGUMENT, () -> x.setChannels(n));
        }
        Check.due("2: channels after the wrong calls", 2, () -> x.count(0));
    }

    private static void promise2BeginsAnew() {
        BurstFinder x = Make.withChannels(2);
        Make.addEmpty(x, 47);
        x.setPending(0, 9);
        x.advance();
        x.advance();
        x.setPending(1, 7);
        x.setMasked(1, true);
        Check.due("2: find before", 1, () -> x.find(0, 1));
        Make.write(x, "1!");
        dueCounts("2: before", x, 2, 48, 1, 1, 1);
        Check.due("2: a wrong call", Make.ARGUMENT, () -> x.setChannels(3));
        dueCounts("2: after a wrong call", x, 2, 48, 1, 1, 1);
        Check.due("2: the same number", 2, () -> x.setChannels(2));
        dueCounts("2: after", x, 2, 0, 0, 0, 0);
        Check.due("2: pending", 0, () -> x.setPending(1, 0));
        Check.due("2: mask", false, () -> x.setMasked(1, false));
        Check.due("2: no column", Make.INDEX, () -> x.power(0, 0));
        Check.due("2: the buffer stays", 2, x::clearInput);
        x.advance();
        Check.due("2: an empty column", 0, () -> x.channelSum(0));
    }

    /** What lay in the upper channels must not come back when they do. */
    private static void promise2UpperChannels() {
        BurstFinder x = Make.withChannels(16);
        for (int c = 0; c < 16; c++) {
            x.setPending(c, 100 + c);
            x.setMasked(c, true);
        }
        x.setChannels(2);
        x.setChannels(16);
        x.advance();
        for (int c = 0; c < 16; c++) {
            int channel = c;
            Check.due("2: power of channel " + c, 0, () -> x.power(channel, 0));
            Check.due("2: mask of channel " + c, false, () -> x.setMasked(channel, false));
        }
    }

    private static void promise3SetPending() {
        BurstFinder x = new BurstFinder();
        Check.due("3: first", 0, () -> x.setPending(0, 9999));
        Check.due("3: second", 9999, () -> x.setPending(0, 0));
        Check.due("3: third", 0, () -> x.setPending(0, 12));
        Check.due("3: another channel", 0, () -> x.setPending(3, 1));
        Check.due("3: power -1", Make.ARGUMENT, () -> x.setPending(0, -1));
        Check.due("3: power 10000", Make.ARGUMENT, () -> x.setPending(0, 10000));
        Check.due("3: channel 4", Make.INDEX, () -> x.setPending(4, 1));
        Check.due("3: channel -1", Make.INDEX, () -> x.setPending(-1, 1));
        Check.due("3: both wrong", Make.INDEX, () -> x.setPending(4, 10000));
        for (int far : Make.FAR) {
            Check.due("3: channel " + far, Make.INDEX, () -> x.setPending(far, -1));
        }
        Check.due("3: as it was", 12, () -> x.setPending(0, 12));
        Check.due("3: no column came", 0, () -> x.count(1));
    }

    private static void promise3KeepsCandidates() {
        BurstFinder x = Make.series(0, 9, 0);
        x.find(0, 1);
        Check.due("3: candidates before", 1, () -> x.count(4));
        x.setPending(0, 5);
        Check.due("3: candidates stay", 1, () -> x.count(4));
    }

    private static void promise4Advance() {
        BurstFinder x = new BurstFinder();
        x.setPending(0, 5);
        x.setPending(3, 9999);
        Check.due("4: first", 1, x::advance);
        Check.due("4: power 0", 5, () -> x.power(0, 0));
        Check.due("4: power 1", 0, () -> x.power(1, 0));
        Check.due("4: power 3", 9999, () -> x.power(3, 0));
        Check.due("4: pending is 0", 0, () -> x.setPending(3, 2));
        Check.due("4: second", 2, x::advance);
        Check.due("4: a power of the second", 2, () -> x.power(3, 1));
        Check.due("4: the first stays", 9999, () -> x.power(3, 0));
    }

    private static void promise4Drops() {
        BurstFinder x = Make.withChannels(2);
        for (int i = 0; i < 60; i++) {
            int number = i;
            x.setPending(0, i);
            x.setPending(1, 1000 + i);
            Check.due("4: advance " + i, Math.min(i + 1, 48), x::advance);
            Check.due("4: dropped at " + i, Math.max(0, i - 47), () -> x.count(2));
            int last = Math.min(number, 47);
            Check.due("4: newest at " + i, number, () -> x.power(0, last));
            Check.due("4: oldest at " + i, 1000 + Math.max(0, number - 47), () -> x.power(1, 0));
        }
        for (int t = 0; t < 48; t++) {
            int column = t;
            Check.due("4: column " + t, 12 + t, () -> x.power(0, column));
        }
        Check.due("4: column 48", Make.INDEX, () -> x.power(0, 48));
    }

    private static void promise5Append() {
        BurstFinder x = new BurstFinder();
        Check.due("5: 31", Make.ARGUMENT, () -> x.append(31));
        Check.due("5: 127", Make.ARGUMENT, () -> x.append(127));
        for (int far : Make.FAR) {
            if (far != 100) {
                Check.due("5: " + far, Make.ARGUMENT, () -> x.append(far));
            }
        }
        Check.due("5: 32", 1, () -> x.append(32));
        Check.due("5: 126", 2, () -> x.append(126));
        for (int i = 3; i <= 64; i++) {
            Check.due("5: length " + i, i, () -> x.append('0'));
        }
        Check.due("5: the 65th", Make.STATE, () -> x.append('0'));
        Check.due("5: both wrong", Make.ARGUMENT, () -> x.append(31));
        Check.due("5: still full", 64, x::clearInput);
        Check.due("5: room again", 1, () -> x.append('0'));
    }

    private static void promise6ClearInput() {
        BurstFinder x = new BurstFinder();
        Check.due("6: empty", 0, x::clearInput);
        Make.write(x, "12345");
        Check.due("6: five", 5, x::clearInput);
        Check.due("6: empty again", 0, x::clearInput);
        Check.due("6: begins anew", 1, () -> x.append('Q'));
        Make.write(x, "000");
        x.load();
        Check.due("6: what was cleared is gone", 26, () -> x.power(0, 0));
        BurstFinder y = Make.series(0, 9, 0);
        y.find(0, 1);
        y.append('0');
        y.clearInput();
        Check.due("6: candidates stay", 1, () -> y.count(4));
    }

    private static void promise7FirstError() {
        for (int code = 32; code <= 126; code++) {
            boolean good = code >= '0' && code <= '9' || code >= 'A' && code <= 'Z';
            BurstFinder x = new BurstFinder();
            x.append('5');
            x.append(code);
            Check.due("7: code " + code, good ? 2 : 1, x::firstError);
        }
        BurstFinder x = new BurstFinder();
        Check.due("7: empty", 0, x::firstError);
        Make.write(x, "09AZ");
        Check.due("7: none", 4, x::firstError);
        Make.write(x, "a0!");
        Check.due("7: first of two", 4, x::firstError);
        Check.due("7: changes nothing", 7, x::clearInput);
        Make.write(x, " 1");
        Check.due("7: at once", 0, x::firstError);
    }

    private static void promise8Load() {
        BurstFinder x = new BurstFinder();
        x.setPending(1, 77);
        Make.write(x, "09AZ1B20");
        Check.due("8: two columns", 2, x::load);
        int[] want = {0, 9, 10, 35, 1, 11, 2, 0};
        for (int i = 0; i < want.length; i++) {
            int at = i;
            Check.due("8: power " + i, want[i], () -> x.power(at % 4, at / 4));
        }
        Check.due("8: columns", 2, () -> x.count(1));
        Check.due("8: the buffer is empty", 0, x::clearInput);
        Check.due("8: pending stays", 77, () -> x.setPending(1, 77));
        x.advance();
        Check.due("8: pending comes behind", 77, () -> x.power(1, 2));
    }

    private static void promise8Refuses() {
        BurstFinder x = new BurstFinder();
        Check.due("8: empty", Make.STATE, x::load);
        Make.write(x, "123");
        Check.due("8: no whole column", Make.STATE, x::load);
        Make.write(x, "45");
        Check.due("8: a column and a part", Make.STATE, x::load);
        Make.write(x, "6a8");
        Check.due("8: not a power", Make.STATE, x::load);
        Check.due("8: no column came", 0, () -> x.count(1));
        Check.due("8: the buffer stays", 8, x::clearInput);
        Make.write(x, "123/");
        Check.due("8: not a power, the last", Make.STATE, x::load);
        x.clearInput();
        Make.write(x, "123456");
        Check.due("8: 6 of 4", Make.STATE, x::load);
        x.setChannels(2);
        Check.due("8: 6 of 2", 3, x::load);
    }

    private static void promise8Drops() {
        BurstFinder x = Make.withChannels(2);
        Make.addEmpty(x, 40);
        StringBuilder text = new StringBuilder();
        for (int i = 0; i < 32; i++) {
            text.append("0123456789ABCDEFGHIJKLMNOPQRSTUVWXYZ".charAt(i)).append('Z');
        }
        Make.write(x, text.toString());
        Check.due("8: a full buffer", 32, x::load);
        Check.due("8: kept", 48, () -> x.count(1));
        Check.due("8: dropped", 24, () -> x.count(2));
        for (int i = 0; i < 32; i++) {
            int power = i;
            Check.due("8: column " + i, power, () -> x.power(0, 16 + power));
        }
        Check.due("8: before them", 0, () -> x.channelSum(1) - 32 * 35);
        BurstFinder y = Make.withChannels(16);
        Make.write(y, text.toString());
        Check.due("8: 4 of 16", 4, y::load);
        Check.due("8: the last power", 35, () -> y.power(15, 3));
    }

    private static void promise9Inject() {
        BurstFinder x = new BurstFinder();
        Make.addEmpty(x, 6);
        x.setMasked(2, true);
        Check.due("9: added", 28, () -> x.inject(2, 1, 7));
        int[] shifts = {0, 1, 1, 2};
        for (int c = 0; c < 4; c++) {
            for (int t = 0; t < 6; t++) {
                int channel = c;
                int column = t;
                Check.due("9: power " + c + " " + t, t == 1 + shifts[c] ? 7 : 0,
                        () -> x.power(channel, column));
            }
        }
        Check.due("9: on top", 4 * 9992, () -> x.inject(2, 1, 9999));
        Check.due("9: greatest", 9999, () -> x.power(0, 1));
        Check.due("9: no more", 0, () -> x.inject(2, 1, 1));
        Check.due("9: half of it", 9999 * 3, () -> x.inject(0, 1, 9999));
    }

    /** The line to which power is added is the straight one, also where the tree bends. */
    private static void promise9IsStraight() {
        BurstFinder x = Make.withChannels(16);
        Make.addEmpty(x, 16);
        int slope = 5;
        x.inject(slope, 0, 3);
        Check.due("9: the tree bends here", 1, () -> x.bend(slope));
        Check.due("9: straight sum", 48, () -> x.lineSum(slope, 0, true));
        for (int c = 0; c < 16; c++) {
            int channel = c;
            Check.due("9: channel " + c, 3, () -> x.power(channel, x.offset(slope, channel, true)));
        }
    }

    private static void promise9Refuses() {
        BurstFinder x = new BurstFinder();
        Check.due("9: no column", Make.INDEX, () -> x.inject(0, 0, 1));
        Make.addEmpty(x, 5);
        Check.due("9: the last line", 4, () -> x.inject(3, 1, 1));
        Check.due("9: one later", Make.INDEX, () -> x.inject(3, 2, 1));
        Check.due("9: the last column", 4, () -> x.inject(0, 4, 1));
        Check.due("9: behind it", Make.INDEX, () -> x.inject(0, 5, 1));
        Check.due("9: column -1", Make.INDEX, () -> x.inject(1, -1, 1));
        Check.due("9: slope -1", Make.INDEX, () -> x.inject(-1, 1, 1));
        Check.due("9: slope 4", Make.INDEX, () -> x.inject(4, 0, 1));
        Check.due("9: amplitude 0", Make.ARGUMENT, () -> x.inject(0, 0, 0));
        Check.due("9: amplitude -1", Make.ARGUMENT, () -> x.inject(0, 0, -1));
        Check.due("9: amplitude 10000", Make.ARGUMENT, () -> x.inject(0, 0, 10000));
        Check.due("9: both wrong", Make.INDEX, () -> x.inject(0, 5, 0));
        for (int far : Make.FAR) {
            Check.due("9: slope " + far, Make.INDEX, () -> x.inject(far, 0, 1));
            Check.due("9: column " + far, Make.INDEX, () -> x.inject(3, far, 1));
        }
        Check.due("9: nothing was added", 2, () -> x.channelSum(0));
    }

    private static void promise10Power() {
        BurstFinder x = Make.loaded(2, "12", "34");
        Check.due("10: 0 0", 1, () -> x.power(0, 0));
        Check.due("10: 1 0", 2, () -> x.power(1, 0));
        Check.due("10: 0 1", 3, () -> x.power(0, 1));
        Check.due("10: 1 1", 4, () -> x.power(1, 1));
        x.setMasked(1, true);
        Check.due("10: masked", 4, () -> x.power(1, 1));
        Check.due("10: channel 2", Make.INDEX, () -> x.power(2, 0));
        Check.due("10: column 2", Make.INDEX, () -> x.power(0, 2));
        for (int far : Make.FAR) {
            Check.due("10: channel " + far, Make.INDEX, () -> x.power(far, 0));
            Check.due("10: column " + far, Make.INDEX, () -> x.power(0, far));
        }
    }

    private static void promise11Count() {
        BurstFinder x = Make.withChannels(8);
        Make.addEmpty(x, 50);
        x.inject(0, 10, 100);
        x.setMasked(0, true);
        x.setMasked(7, true);
        x.setMasked(7, true);
        x.setMasked(3, true);
        x.setMasked(3, false);
        x.find(0, 1);
        dueCounts("11", x, 8, 48, 2, 2, 1);
        Check.due("11: 5", Make.ARGUMENT, () -> x.count(5));
        for (int far : Make.FAR) {
            Check.due("11: " + far, Make.ARGUMENT, () -> x.count(far));
        }
    }

    public static void main(String[] args) {
        promise1NewObject();
        promise2SetChannels();
        promise2BeginsAnew();
        promise2UpperChannels();
        promise3SetPending();
        promise3KeepsCandidates();
        promise4Advance();
        promise4Drops();
        promise5Append();
        promise6ClearInput();
        promise7FirstError();
        promise8Load();
        promise8Refuses();
        promise8Drops();
        promise9Inject();
        promise9IsStraight();
        promise9Refuses();
        promise10Power();
        promise11Count();
        Check.finish("DataTest");
    }
}
