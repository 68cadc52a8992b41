/** The largest book that there can be, and one object's calls one after the other on it. */
final class FullTest {
    private static final int NONE = PieceDeposits.NONE;

    private FullTest() {
    }

    static void run() {
        viewOfAFullBook();
        answersOfAFullBook();
        changesOfAFullBook();
        pieceGoesFromAFullBook();
        lastWordGoesFromAFullBook();
        nothingIsLeftOfALongerWord();
        nothingIsLeftOfAnEarlierQuestion();
    }

    /** 4 users, 24 pieces and 16 words; the piece z is the last one, y before it has no uses. */
    private static PieceDeposits full() {
        PieceDeposits x = Feed.book("book 99 0 1 0 50;user u 9999;user v 9999;user w 9999;"
                + "user x 9999;" + Sample.pieces(22) + "word u abababababab;".repeat(15));
        Feed.put(x, "y").bring(2);
        Feed.put(x, "z").store(3);
        return x;
    }

    private static void viewOfAFullBook() {
        PieceDeposits x = full();
        Check.due("users", x.size(0), 4);
        Check.due("pieces", x.size(1), 24);
        Check.due("words", x.size(2), 16);
        Check.due("uses of a", x.piece(0, 3), 90);
        Check.due("the last part of the last but one", x.part(14, 11), 1);
        Check.due("no more", x.part(14, 12), NONE);
        Check.due("the last word", x.part(15, 0), 23);
        Check.due("no more", x.part(15, 1), NONE);
        Check.dueText("a word of 12 letters", Feed.word(x, 14), "abababababab");
        Check.due("words of u", x.user(0, 1), 15);
        Check.due("deposits of u", x.user(0, 2), 180);
        Check.due("piece of x", x.user(3, 3), 1);
        Check.due("the last user", Feed.put(x, "x").find(0), 3);
        Check.due("the last piece", Feed.put(x, "z").find(1), 23);
        Check.due("the last word", Feed.put(x, "z").find(2), 15);
        Check.due("whole", x.isWhole(), true);
    }

    private static void answersOfAFullBook() {
        PieceDeposits x = full();
        Check.due("why not", Feed.put(x, "a").whyNotStore(0), 2);
        Check.due("quote", Feed.put(x, "abcdefghijkl").quote(3), 12);
        Check.due("ways", x.ways(14), 1);
        Check.due("fewest", x.fewest(14), 12);
        Check.due("saving", x.saving(15), 0);
        Check.due("best part begins", x.bestPart(14, 0), 0);
        Check.due("best part of 6", x.bestPart(14, 1), 6);
        Check.due("best part makes less", x.bestPart(14, 2), 15 * 10);
        Check.due("no part of z", x.bestPart(15, 2), NONE);
        Check.due("shared", x.shared(14, 0), 2);
        Check.due("shared", x.shared(14, 15), 0);
        Check.due("favourite", x.favourite(), 0);
        Check.due("richest", x.richest(), 0);
    }

    private static void changesOfAFullBook() {
        PieceDeposits x = full();
        Feed.put(x, "a");
        Check.badState("17 words", () -> x.store(0));
        Feed.put(x, "x");
        Check.badState("25 pieces", () -> x.bring(0));
        Check.due("recutAll", x.recutAll(), 0);
        Check.due("recut", x.recut(15), 0);
        Check.due("pay", x.pay(3, 0, 1), 9999 - 180 + 1);
        x.saveSnapshot(1);
        Check.due("remove", x.remove(0), 9999 - 168 + 1);
        Check.due("undo", x.undo(), 5);
        Check.due("words", x.size(2), 16);
        Check.due("restore", x.restoreSnapshot(1), 16);
        Check.due("whole", x.isWhole(), true);
    }

    /** The piece behind it gets a number that is less by 1, in the last word, too. */
    private static void pieceGoesFromAFullBook() {
        PieceDeposits x = full();
        Check.due("y goes", x.tick(1), 1);
        Check.due("pieces", x.size(1), 23);
        Check.due("the last word", x.part(15, 0), 22);
        Check.dueText("its letters", Feed.word(x, 15), "z");
        Check.dueText("a word before it", Feed.word(x, 14), "abababababab");
        Check.due("the refund", x.user(2, 0), 9999 - 99 + 49);
        Check.due("whole", x.isWhole(), true);
        Check.due("a new piece", Feed.put(x, "ababab").bring(0), 23);
        Check.due("deposits back", x.recutAll(), 150);
        Check.due("its uses", x.piece(23, 3), 30);
        Check.due("whole", x.isWhole(), true);
    }

    private static void lastWordGoesFromAFullBook() {
        PieceDeposits x = full();
        x.remove(15);
        Check.outOfBounds("word 15", () -> x.part(15, 0));
        Check.due("y and z go", x.tick(1), 2);
        x.remove(14);
        Check.due("best part makes less", x.bestPart(13, 2), 14 * 10);
        Check.due("no z any more", Feed.put(x, "z").find(2), NONE);
        for (int word = 13; word >= 0; word--) {
            x.remove(word);
        }
        Check.due("no words", x.size(2), 0);
        Check.due("no word", Feed.put(x, "abababababab").find(2), NONE);
        Check.due("the fund", x.size(5), 0);
        Check.due("uses of a", x.piece(0, 3), 0);
        Check.due("whole", x.isWhole(), true);
    }

    /** What a call answers does not hang on the word of the call before. */
    private static void nothingIsLeftOfALongerWord() {
        PieceDeposits x = Feed.book("book 9 0 1 0 0;user u 99;word u abcdef;");
        for (int letters = 1; letters <= 12; letters++) {
            Check.due("fewest", x.fewest(0), 1);
            Feed.put(x, "uvwxyzuvwxyz".substring(0, letters));
            Check.due("pieces of " + letters + " letters", x.quote(3), letters <= 6 ? 1 : 2);
            Check.due("ways", x.ways(0), 1);
            Feed.put(x, "uvwxyzuvwxyz".substring(0, letters));
            Check.due("cost of " + letters + " letters", x.quote(0),
                    letters <= 6 ? 10 : letters < 12 ? 20 : 11);
        }
    }

    private static void nothingIsLeftOfAnEarlierQuestion() {
        PieceDeposits x = Feed.book("book 99 0 1 0 0;user u 99;piece a;piece b;word u abab;"
                + "word u b;word u ab;");
        for (int i = 0; i < 2; i++) {
            Check.due("best part of abab", x.bestPart(0, 2), 3);
            Check.due("no part of b", x.bestPart(1, 2), NONE);
            Check.due("best part of ab", x.bestPart(2, 1), 2);
            Check.due("fewest", x.fewest(0), 4);
            Check.due("ways", x.ways(2), 1);
        }
    }
}
