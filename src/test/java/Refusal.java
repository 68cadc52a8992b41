/**
 * Holds that a refused call throws what it should and changes nothing but what the document says:
 * the object is compared with a twin that was not called, in its state, its buffer, the changes
 * that can be undone, and both slots.
 */
final class Refusal {
    static final String BOUNDS = "IndexOutOfBoundsException";
    static final String ARGUMENT = "IllegalArgumentException";
    static final String STATE = "IllegalStateException";

    /** Makes the same object each time. */
    interface Make {
        PieceDeposits object();
    }

    /** A call of the object; a boolean answer counts 1 or 0. */
    interface Use {
        long of(PieceDeposits x);
    }

    private Refusal() {
    }

    /** A call that does not read the buffer as a word: the buffer stays, too. */
    static void leavesAll(String what, String due, Make make, Use use) {
        check(what, due, make, "ab", "ab", use);
    }

    /** A call that reads the buffer as a word: it is empty afterwards. */
    static void emptiesBuffer(String what, String due, Make make, String buffer, Use use) {
        check(what, due, make, buffer, "", use);
    }

    private static void check(String what, String due, Make make, String before, String after,
            Use use) {
        PieceDeposits x = Feed.put(make.object(), before);
        Check.dueThrown(what, () -> use.of(x), due);
        Check.dueText(what + " changes nothing", allOf(x),
                allOf(Feed.put(make.object(), after)));
    }

    /** All that can be seen of an object and of its past; nothing of the object is left then. */
    static String allOf(PieceDeposits x) {
        StringBuilder all = new StringBuilder(Feed.state(x));
        all.append(" || ").append(Feed.append(x, " ".repeat(Feed.STEP)));
        all.append(' ').append(x.find(1));
        while (x.undo() != PieceDeposits.NONE) {
            all.append(" | ").append(inShort(x));
        }
        for (int slot = 0; slot < 2; slot++) {
            all.append(" || ").append(restored(x, slot));
        }
        return all.toString();
    }

    private static String restored(PieceDeposits x, int slot) {
        try {
            return x.restoreSnapshot(slot) + " " + inShort(x);
        } catch (IllegalStateException e) {
            return "empty";
        }
    }

    private static String inShort(PieceDeposits x) {
        StringBuilder all = new StringBuilder();
        for (int what = 0; what < 6; what++) {
            all.append(x.size(what)).append(' ');
        }
        for (int user = 0; user < x.size(0); user++) {
            all.append(x.user(user, 0)).append(' ');
        }
        return all.append(x.account(3)).append(' ').append(x.size(11)).toString();
    }
}
