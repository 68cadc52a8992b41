/** Promises 7 to 12: users, pieces and words. */
final class ViewTest {
    private static final int NONE = PieceDeposits.NONE;
    private static final int LEAST = Integer.MIN_VALUE;
    private static final int MOST = Integer.MAX_VALUE;

    private ViewTest() {
    }

    static void run() {
        promise7User();
        promise8Piece();
        promise8IdleTimes();
        promise9PieceLetter();
        promise10Word();
        promise11WordLetter();
        promise12Part();
    }

    /** The pieces ab and c are of the house; bob owns xyz, and ann owns qq. */
    private static PieceDeposits filled() {
        return Feed.book("book 10 2 3 1 50;user ann 100;user bob 80;user eve 5;piece ab;piece c;"
                + "word ann abc;word bob xyz;word bob xyzc;word ann qq;");
    }

    private static void dueAll(String what, int[] got, int... want) {
        for (int i = 0; i < want.length; i++) {
            Check.due(what + " " + i, got[i], want[i]);
        }
    }

    private static int[] user(PieceDeposits x, int user) {
        return new int[] {x.user(user, 0), x.user(user, 1), x.user(user, 2), x.user(user, 3),
            x.user(user, 4)};
    }

    private static int[] piece(PieceDeposits x, int piece) {
        return new int[] {x.piece(piece, 0), x.piece(piece, 1), x.piece(piece, 2),
            x.piece(piece, 3), x.piece(piece, 4)};
    }

    private static void promise7User() {
        PieceDeposits x = filled();
        // The word qq is one new piece: its price is 14, its use costs 3.
        dueAll("ann", user(x, 0), 100 - 6 - 17, 2, 9, 1, 14);
        dueAll("bob", user(x, 1), 80 - 19 - 6, 2, 9, 1, 16);
        dueAll("eve", user(x, 2), 5, 0, 0, 0, 0);
        PieceDeposits y = Feed.book("book 10 2 3 1 50;user ann 100;word ann xyz;");
        dueAll("piece 0 is ann's", user(y, 0), 81, 1, 3, 1, 16);
        Check.outOfBounds("user(3, 0)", () -> x.user(3, 0));
        Check.outOfBounds("user(-1, 0)", () -> x.user(-1, 0));
        Check.outOfBounds("user(most, 9)", () -> x.user(MOST, 9));
        Check.outOfBounds("the user is checked first", () -> x.user(LEAST, -1));
        Check.badArgument("user(0, 5)", () -> x.user(0, 5));
        Check.badArgument("user(0, -1)", () -> x.user(0, -1));
        Check.badArgument("user(2, most)", () -> x.user(2, MOST));
    }

    private static void promise8Piece() {
        PieceDeposits x = filled();
        dueAll("ab", piece(x, 0), 2, 0, NONE, 1, NONE);
        dueAll("c", piece(x, 1), 1, 0, NONE, 2, NONE);
        dueAll("xyz", piece(x, 2), 3, 16, 1, 2, NONE);
        dueAll("qq", piece(x, 3), 2, 14, 0, 1, NONE);
        Check.outOfBounds("piece(4, 0)", () -> x.piece(4, 0));
        Check.outOfBounds("piece(-1, 0)", () -> x.piece(-1, 0));
        Check.outOfBounds("the piece is checked first", () -> x.piece(MOST, 5));
        Check.badArgument("piece(0, 5)", () -> x.piece(0, 5));
        Check.badArgument("piece(3, -1)", () -> x.piece(3, -1));
        Check.badArgument("piece(3, least)", () -> x.piece(3, LEAST));
    }

    private static void promise8IdleTimes() {
        PieceDeposits x = Feed.book("book 0 1 1 9 0;user a 99;piece ab;piece c;word a ab;");
        x.tick(4);
        Check.due("never used, of the house", x.piece(1, 4), 0);
        Check.due("used", x.piece(0, 4), NONE);
        Feed.put(x, "xy").bring(0);
        Check.due("brought at 4", x.piece(2, 4), 4);
        x.tick(2);
        x.remove(0);
        Check.due("uses ended at 6", x.piece(0, 4), 6);
        Feed.put(x, "abxy").store(0);
        Check.due("used anew", x.piece(0, 4), NONE);
        Check.due("used first", x.piece(2, 4), NONE);
        x.tick(1);
        Check.due("a word of the same pieces", Feed.put(x, "xy").store(0), 1);
        x.remove(1);
        Check.due("one use is left", x.piece(2, 4), NONE);
        x.remove(0);
        Check.due("uses ended at 7", x.piece(2, 4), 7);
        Check.due("never used at all", x.piece(1, 4), 0);
    }

    private static void promise9PieceLetter() {
        PieceDeposits x = Feed.book("book 0 0 1 0 0;piece azbycx;piece q;");
        int[] due = {0, 25, 1, 24, 2, 23, NONE, NONE};
        for (int k = 0; k < due.length; k++) {
            Check.due("letter " + k, x.pieceLetter(0, k), due[k]);
        }
        Check.due("q", x.pieceLetter(1, 0), 16);
        Check.due("no more", x.pieceLetter(1, 1), NONE);
        Check.due("letter -1", x.pieceLetter(0, -1), NONE);
        Check.due("letter 12", x.pieceLetter(0, 12), NONE);
        Check.due("letter 64", x.pieceLetter(0, 64), NONE);
        Check.due("letter most", x.pieceLetter(1, MOST), NONE);
        Check.due("letter least", x.pieceLetter(1, LEAST), NONE);
        Check.outOfBounds("pieceLetter(2, 0)", () -> x.pieceLetter(2, 0));
        Check.outOfBounds("pieceLetter(-1, -1)", () -> x.pieceLetter(-1, -1));
    }

    private static void promise10Word() {
        PieceDeposits x = filled();
        int[][] due = {{0, 3, 2, 6}, {1, 3, 1, 3}, {1, 4, 2, 6}, {0, 2, 1, 3}};
        for (int word = 0; word < due.length; word++) {
            for (int what = 0; what < 4; what++) {
                Check.due("word " + word + " " + what, x.word(word, what), due[word][what]);
            }
        }
        x.remove(0);
        Check.due("numbers behind are less by 1", x.word(0, 0), 1);
        Check.outOfBounds("word(3, 0)", () -> x.word(3, 0));
        Check.outOfBounds("word(-1, 0)", () -> x.word(-1, 0));
        Check.outOfBounds("the word is checked first", () -> x.word(MOST, 4));
        Check.badArgument("word(0, 4)", () -> x.word(0, 4));
        Check.badArgument("word(0, -1)", () -> x.word(0, -1));
    }

    private static void promise11WordLetter() {
        PieceDeposits x = Feed.book("book 0 0 1 0 0;user a 9;word a azbycxdwevfu;word a q;");
        int[] due = {0, 25, 1, 24, 2, 23, 3, 22, 4, 21, 5, 20, NONE, NONE};
        for (int k = 0; k < due.length; k++) {
            Check.due("letter " + k, x.wordLetter(0, k), due[k]);
        }
        Check.due("q", x.wordLetter(1, 0), 16);
        Check.due("no more", x.wordLetter(1, 1), NONE);
        Check.due("letter -1", x.wordLetter(0, -1), NONE);
        Check.due("letter 64", x.wordLetter(0, 64), NONE);
        Check.due("letter least", x.wordLetter(0, LEAST), NONE);
        Check.outOfBounds("wordLetter(2, 0)", () -> x.wordLetter(2, 0));
        Check.outOfBounds("wordLetter(-1, 0)", () -> x.wordLetter(-1, 0));
    }

    private static void promise12Part() {
        PieceDeposits x = filled();
        Check.due("ab", x.part(0, 0), 0);
        Check.due("c", x.part(0, 1), 1);
        Check.due("no more", x.part(0, 2), NONE);
        Check.due("xyz", x.part(2, 0), 2);
        Check.due("c", x.part(2, 1), 1);
        Check.due("part -1", x.part(2, -1), NONE);
        Check.due("part 12", x.part(2, 12), NONE);
        Check.due("part most", x.part(2, MOST), NONE);
        Check.due("part least", x.part(2, LEAST), NONE);
        Check.outOfBounds("part(4, 0)", () -> x.part(4, 0));
        Check.outOfBounds("part(-1, 0)", () -> x.part(-1, 0));
        PieceDeposits y = Feed.book("book 9 0 1 0 0;user a 99;piece a;piece b;word a abba;");
        Check.dueText("a piece for each occurrence", Feed.cutting(y, 0), "a.b.b.a");
    }
}
