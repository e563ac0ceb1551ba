import java.io.IOException;

/** The four examples of the document, call by call, and once more as they stand in it. */
public final class ExamplesTest {
    private ExamplesTest() {
    }

    private static void textAndOneCandidate() {
        BurstFinder x = new BurstFinder();
        Check.due("1: setChannels(2)", 4, () -> x.setChannels(2));
        int[] codes = {48, 49, 48, 48, 48, 49, 57, 48, 48, 49, 48, 48};
        for (int i = 0; i < codes.length; i++) {
            int code = codes[i];
            Check.due("1: append(" + code + ")", i + 1, () -> x.append(code));
        }
        Check.due("1: load()", 6, x::load);
        Check.due("1: lineSum(1, 2, false)", 0, () -> x.lineSum(1, 2, false));
        Check.due("1: find(0, 2)", 1, () -> x.find(0, 2));
    }

    private static void offsetsAndStrike() {
        BurstFinder x = new BurstFinder();
        Check.due("2: offset(3, 1, false)", 1, () -> x.offset(3, 1, false));
        Check.due("2: offset(2, 1, true)", 1, () -> x.offset(2, 1, true));
        Check.due("2: bend(2)", 0, () -> x.bend(2));
        Check.due("2: setPending(0, 5)", 0, () -> x.setPending(0, 5));
        Check.due("2: setPending(3, 7)", 0, () -> x.setPending(3, 7));
        Check.due("2: advance()", 1, x::advance);
        Check.due("2: lineSum(0, 0, false)", 12, () -> x.lineSum(0, 0, false));
        Check.due("2: channelSum(3)", 7, () -> x.channelSum(3));
        Check.due("2: strike(1)", 8, () -> x.strike(1));
        Check.due("2: lineSum(0, 0, false) again", 5, () -> x.lineSum(0, 0, false));
        Check.due("2: mean(0)", 5.0, () -> x.mean(0));
        Check.due("2: mean(2)", 0.0, () -> x.mean(2));
    }

    private static void injectedLine() {
        BurstFinder x = new BurstFinder();
        Check.due("3: setChannels(2)", 4, () -> x.setChannels(2));
        for (int i = 1; i <= 4; i++) {
            Check.due("3: advance()", i, x::advance);
        }
        Check.due("3: inject(1, 1, 50)", 100, () -> x.inject(1, 1, 50));
        Check.due("3: power(1, 2)", 50, () -> x.power(1, 2));
        Check.due("3: find(0, 1)", 1, () -> x.find(0, 1));
        Check.due("3: candidate(0, 0)", 1, () -> x.candidate(0, 0));
        Check.due("3: candidate(0, 1)", 1, () -> x.candidate(0, 1));
        Check.due("3: candidate(0, 3)", 2000, () -> x.candidate(0, 3));
        Check.due("3: candidateAt(2)", 0, () -> x.candidateAt(2));
        Check.due("3: score(1, 1, 1)", 2000, () -> x.score(1, 1, 1));
        Check.due("3: score(0, 1, 1)", 1000, () -> x.score(0, 1, 1));
    }

    private static void errors() {
        BurstFinder x = new BurstFinder();
        Check.due("4: append(49)", 1, () -> x.append(49));
        Check.due("4: append(33)", 2, () -> x.append(33));
        Check.due("4: firstError()", 1, x::firstError);
        Check.due("4: load()", Make.STATE, x::load);
        Check.due("4: clearInput()", 2, x::clearInput);
        Check.due("4: lineSum(0, 0, false)", Make.INDEX, () -> x.lineSum(0, 0, false));
        Check.due("4: boxSum(0, 0, 9)", Make.ARGUMENT, () -> x.boxSum(0, 0, 9));
    }

    /** Nothing may be left out in the calls above: there are as many of them in the document. */
    private static void asTheyStandThere() throws IOException {
        int above = Check.made();
        for (String example : Document.examples()) {
            BurstFinder x = new BurstFinder();
            String calls = example.substring(example.indexOf(": ") + 2, example.length() - 1);
            for (String call : calls.split("; ")) {
                String[] part = call.split(" = ");
                Written.due(x, "document, " + example.substring(0, 1), part[0], part[1]);
            }
        }
        int there = Check.made() - above;
        Check.due("calls in the document's examples", above, () -> there);
    }

    public static void main(String[] args) throws IOException {
        textAndOneCandidate();
        offsetsAndStrike();
        injectedLine();
        errors();
        if (Document.isThere()) {
            asTheyStandThere();
        } else {
            System.out.println("ExamplesTest: no document to read the examples in");
        }
        Check.finish("ExamplesTest");
    }
}
