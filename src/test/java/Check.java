/** Counts and prints the answers that are not as due; a test ends with finish(). */
final class Check {
    interface Call {
        Object run();
    }

    private static int checks = 0;
    private static int wrong = 0;
    private static String part = "";

    private Check() {
    }

    /** Names the part of a test to which the checks from now on belong. */
    static void begin(String name) {
        part = name.isEmpty() ? "" : name + ": ";
    }

    static int made() {
        return checks;
    }

    /** Compares the answer of a call; a due exception is given as its class. */
    static void due(String what, Object want, Call call) {
        checks++;
        Object got = answer(call);
        if (!same(want, got)) {
            wrong++;
            System.out.println(part + what + " answered " + got + ", due is " + want);
        }
    }

    /** Returns what a call answers, or the class of what it throws. */
    static Object answer(Call call) {
        try {
            return call.run();
        } catch (RuntimeException e) {
            return e.getClass();
        }
    }

    /** Whole numbers are compared by value, so that a test may write 1 where a long is answered. */
    static boolean same(Object want, Object got) {
        boolean whole = isWhole(want) && isWhole(got);
        return whole
                ? ((Number) want).longValue() == ((Number) got).longValue()
                : want.equals(got);
    }

    private static boolean isWhole(Object value) {
        return value instanceof Integer || value instanceof Long;
    }

    static void finish(String test) {
        System.out.println(test + ": " + checks + " checks, " + wrong + " wrong");
        if (wrong != 0 || checks == 0) {
            System.exit(1);
        }
    }
}
