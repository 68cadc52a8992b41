/** Counts the answers that are due and prints those that are not. */
final class Check {
    /** A call of the class under test; a boolean answer counts 1 or 0. */
    interface Call {
        long answer();
    }

    private static final String NOTHING = "nothing";
    private static int right = 0;
    private static int wrong = 0;

    private Check() {
    }

    static void due(String what, long got, long want) {
        note(what, Long.toString(got), Long.toString(want));
    }

    static void due(String what, boolean got, boolean want) {
        note(what, Boolean.toString(got), Boolean.toString(want));
    }

    static void dueText(String what, String got, String want) {
        note(what, got, want);
    }

    static void outOfBounds(String what, Call call) {
        note(what + " throws", thrownBy(call), "IndexOutOfBoundsException");
    }

    static void badArgument(String what, Call call) {
        note(what + " throws", thrownBy(call), "IllegalArgumentException");
    }

    static void badState(String what, Call call) {
        note(what + " throws", thrownBy(call), "IllegalStateException");
    }

    static void dueThrown(String what, Call call, String want) {
        note(what + " throws", thrownBy(call), want);
    }

    static int right() {
        return right;
    }

    static int wrong() {
        return wrong;
    }

    private static void note(String what, String got, String want) {
        if (got.equals(want)) {
            right++;
        } else {
            wrong++;
            System.out.println(what + " answered " + got + ", due is " + want);
        }
    }

    /** The very class counts: a subclass is what the machine throws. */
    private static String thrownBy(Call call) {
        try {
            call.answer();
            return NOTHING;
        } catch (RuntimeException e) {
            return e.getClass().getSimpleName();
        }
    }
}
