/** Objects in states that many tests want: with all that there can be, or full of something. */
final class Sample {
    static final String ALPHABET = "abcdefghijklmnopqrstuvwxyz";

    private Sample() {
    }

    /**
     * Three users (eve is poor), five pieces (cd is idle), three words, the most changes that can
     * be undone, two snapshots, and the position of an error.
     */
    static PieceDeposits rich() {
        PieceDeposits x = Feed.book("book 10 2 3 9 50;user ann 400;user bob 300;user eve 2;"
                + "piece ab;piece c;word ann abc;word bob xyzab;");
        x.tick(1);
        Feed.put(x, "cd").bring(1);
        x.saveSnapshot(0);
        x.pay(0, 1, 3);
        Feed.put(x, "uvab").store(0);
        x.saveSnapshot(1);
        for (int i = 0; i < 8; i++) {
            x.pay(0, 1, i);
        }
        Check.due("a parse error", Feed.parse(x, "book 9 9 9 9 9;user"), 1);
        return x;
    }

    /** A book like the rich one without words and changes, and with both slots empty. */
    static PieceDeposits withoutChanges() {
        return Feed.book("book 10 2 3 9 50;user ann 400;user bob 300;piece ab;piece c;");
    }

    /** One user with 99 coins, "piece a;" and so on up to the number of pieces, and words. */
    static PieceDeposits full(int pieces, int words) {
        return Feed.book("book 1 1 1 0 0;user u 99;" + pieces(pieces) + words(words));
    }

    /** "piece a;piece b;" and so on: at most 26 pieces. */
    static String pieces(int count) {
        StringBuilder text = new StringBuilder();
        for (int i = 0; i < count; i++) {
            text.append("piece ").append(ALPHABET.charAt(i)).append(';');
        }
        return text.toString();
    }

    static String words(int count) {
        return "word u a;".repeat(count);
    }
}
