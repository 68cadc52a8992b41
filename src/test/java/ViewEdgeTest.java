/** The boundaries of promises 5 to 12: counts, finding, users, pieces and words. */
final class ViewEdgeTest {
    private static final int NONE = PieceDeposits.NONE;
    private static final int LEAST = Integer.MIN_VALUE;
    private static final int MOST = Integer.MAX_VALUE;

    private ViewEdgeTest() {
    }

    static void run() {
        promise5Counts();
        promise5TimeChestAndFund();
        promise5ChangesThatCanBeUndone();
        promise6Users();
        promise6Pieces();
        promise6FirstWord();
        promise6NoneInAnEmptyBook();
        promise7FirstAndLastUser();
        promise7WithoutAnything();
        promise7WordsAndDeposits();
        promise7PiecesAndPrices();
        promise8FirstAndLastPiece();
        promise8PriceAndOwner();
        promise8Uses();
        promise8IdleOfAPieceOfTheHouse();
        promise8IdleOfAPieceThatWasPaidFor();
        promise8NumbersWhenAPieceGoes();
        promise9Letters();
        promise10FirstAndLastWord();
        promise10NumbersWhenAWordGoes();
        promise11Letters();
        promise12Parts();
    }

    // ---- promise 5

    private static void promise5Counts() {
        PieceDeposits none = new PieceDeposits();
        PieceDeposits one = Feed.book("book 0 0 1 0 0;user u 1;piece a;word u a;");
        PieceDeposits all = Feed.book("book 0 0 1 0 0;user u 20;user v 1;user w 1;user x 1;"
                + Sample.pieces(24) + Sample.words(16));
        int[] most = {4, 24, 16};
        for (int what = 0; what < 3; what++) {
            Check.due("none of " + what, none.size(what), 0);
            Check.due("one of " + what, one.size(what), 1);
            Check.due("all of " + what, all.size(what), most[what]);
        }
        all.remove(15);
        Check.due("a word less", all.size(2), 15);
        Feed.put(one, "b").bring(0);
        Check.due("a piece more", one.size(1), 2);
        one.tick(1);
        Check.due("a piece less", one.size(1), 1);
        one.remove(0);
        Check.due("no word", one.size(2), 0);
    }

    /** The time begins at 0. */
    private static void promise5TimeChestAndFund() {
        PieceDeposits x = Feed.book("book 4 1 2 0 20;user u 30;");
        Check.due("the time", x.size(3), 0);
        Check.due("the chest", x.size(4), 0);
        Check.due("the fund", x.size(5), 0);
        Feed.put(x, "a").store(0);
        Check.due("the time", x.size(3), 0);
        Check.due("the chest", x.size(4), 5);
        Check.due("the fund", x.size(5), 2);
        x.remove(0);
        Check.due("the fund", x.size(5), 0);
        x.tick(1);
        Check.due("the time", x.size(3), 1);
        Check.due("the chest", x.size(4), 4);
        x.tick(30);
        Check.due("the time", x.size(3), 31);
    }

    private static void promise5ChangesThatCanBeUndone() {
        PieceDeposits x = new PieceDeposits();
        for (int changes = 0; changes <= 12; changes++) {
            Check.due("changes", x.size(11), Math.min(changes, 10));
            x.tick(1);
        }
    }

    // ---- promise 6

    private static int find(PieceDeposits x, String word, int kind) {
        return Feed.put(x, word).find(kind);
    }

    private static void promise6Users() {
        PieceDeposits x = Feed.book("book 0 0 1 0 0;user a 0;user ab 0;user abcdefghijkl 0;"
                + "user z 0;piece b;");
        Check.due("the first", find(x, "a", 0), 0);
        Check.due("the second", find(x, "ab", 0), 1);
        Check.due("12 letters", find(x, "abcdefghijkl", 0), 2);
        Check.due("the last", find(x, "z", 0), 3);
        Check.due("a letter less", find(x, "abcdefghijk", 0), NONE);
        Check.due("a letter more", find(x, "abc", 0), NONE);
        Check.due("a piece is no user", find(x, "b", 0), NONE);
    }

    private static void promise6Pieces() {
        PieceDeposits x = Feed.book("book 0 0 1 0 0;user q 9;piece a;piece ab;piece abcdef;"
                + "word q zz;word q abab;");
        Check.due("the first", find(x, "a", 1), 0);
        Check.due("6 letters", find(x, "abcdef", 1), 2);
        Check.due("the last but one", find(x, "zz", 1), 3);
        Check.due("a letter less", find(x, "abcde", 1), NONE);
        Check.due("a letter more", find(x, "abcdefa", 1), NONE);
        Check.due("6 letters more", find(x, "abcdefabcdef", 1), NONE);
        Check.due("another order", find(x, "ba", 1), NONE);
        Check.due("a user is no piece", find(x, "q", 1), NONE);
        Feed.put(x, "y").bring(0);
        Check.due("brought", find(x, "y", 1), 5);
        x.tick(1);
        Check.due("gone back", find(x, "y", 1), NONE);
    }

    /** 2 the first word with these letters. */
    private static void promise6FirstWord() {
        PieceDeposits x = Feed.book("book 0 0 1 0 0;user q 20;piece a;word q b;word q a;word q a;"
                + "word q abcdefghijkl;word q a;");
        Check.due("the first of three", find(x, "a", 2), 1);
        Check.due("the first of all", find(x, "b", 2), 0);
        Check.due("12 letters", find(x, "abcdefghijkl", 2), 3);
        Check.due("a letter less", find(x, "abcdefghijk", 2), NONE);
        Check.due("a piece is no word", find(x, "ghijkl", 2), NONE);
        x.remove(1);
        Check.due("the first of two", find(x, "a", 2), 1);
        x.remove(1);
        Check.due("the last of all", find(x, "a", 2), 2);
        x.remove(2);
        Check.due("there is none any more", find(x, "a", 2), NONE);
    }

    private static void promise6NoneInAnEmptyBook() {
        PieceDeposits x = new PieceDeposits();
        for (int kind = 0; kind <= 2; kind++) {
            Check.due("find " + kind, find(x, "a", kind), NONE);
            Check.due("without a word", x.find(kind), NONE);
        }
    }

    // ---- promise 7

    private static void user(PieceDeposits x, int user, int... due) {
        for (int what = 0; what < due.length; what++) {
            Check.due("user " + user + " " + what, x.user(user, what), due[what]);
        }
    }

    private static void promise7FirstAndLastUser() {
        PieceDeposits x = Feed.book("book 0 0 1 0 0;user a 0;user b 1;user c 9998;user d 9999;");
        user(x, 0, 0, 0, 0, 0, 0);
        user(x, 1, 1, 0, 0, 0, 0);
        user(x, 2, 9998, 0, 0, 0, 0);
        user(x, 3, 9999, 0, 0, 0, 0);
        Check.outOfBounds("user 4", () -> x.user(4, 0));
        PieceDeposits one = Feed.book("book 0 0 1 0 0;user a 0;");
        Check.due("user 0", one.user(0, 4), 0);
        Check.outOfBounds("user 1", () -> one.user(1, 0));
        Check.outOfBounds("user 0 of none", () -> new PieceDeposits().user(0, 0));
    }

    private static void promise7WithoutAnything() {
        PieceDeposits x = Feed.book("book 9 0 2 0 0;user a 99;user b 99;word a x;");
        user(x, 0, 88, 1, 2, 1, 9);
        user(x, 1, 99, 0, 0, 0, 0);
        x.remove(0);
        user(x, 0, 90, 0, 0, 1, 9);
        x.tick(1);
        user(x, 0, 90, 0, 0, 0, 0);
    }

    /** 1 the number of words, 2 the deposits that are held for these. */
    private static void promise7WordsAndDeposits() {
        PieceDeposits x = Feed.book("book 99 0 9 0 0;user a 999;user b 999;piece a;piece b;"
                + "word a abababababab;word b ab;word a b;");
        user(x, 0, 999 - 13 * 9, 2, 13 * 9, 0, 0);
        user(x, 1, 999 - 2 * 9, 1, 2 * 9, 0, 0);
        Feed.put(x, "ab").bring(1);
        user(x, 0, 999 - 13 * 9, 2, 13 * 9, 0, 0);
        user(x, 1, 999 - 2 * 9 - 99, 1, 2 * 9, 1, 99);
        x.recut(0);
        user(x, 0, 999 - 7 * 9, 2, 7 * 9, 0, 0);
        x.remove(0);
        user(x, 0, 999 - 9, 1, 9, 0, 0);
    }

    /** 3 the number of pieces of which it is the owner, 4 the sum of their prices. */
    private static void promise7PiecesAndPrices() {
        PieceDeposits x = Feed.book("book 99 9 1 1 0;user a 999;user b 999;piece zz;");
        user(x, 1, 999, 0, 0, 0, 0);
        Feed.put(x, "abcdef").bring(1);
        user(x, 1, 999 - 153, 0, 0, 1, 153);
        Feed.put(x, "a").bring(0);
        x.tick(1);
        Feed.put(x, "ab").bring(1);
        user(x, 1, 999 - 153 - 117, 0, 0, 2, 153 + 117);
        user(x, 0, 999 - 108, 0, 0, 1, 108);
        x.tick(1);
        user(x, 1, 999 - 153 - 117, 0, 0, 1, 117);
        user(x, 0, 999 - 108, 0, 0, 0, 0);
        x.tick(1);
        user(x, 1, 999 - 153 - 117, 0, 0, 0, 0);
    }

    // ---- promise 8

    private static void piece(PieceDeposits x, int piece, int... due) {
        for (int what = 0; what < due.length; what++) {
            Check.due("piece " + piece + " " + what, x.piece(piece, what), due[what]);
        }
    }

    private static void promise8FirstAndLastPiece() {
        PieceDeposits x = Sample.full(24, 0);
        Check.due("piece 0", x.piece(0, 0), 1);
        Check.due("piece 23", x.piece(23, 0), 1);
        Check.outOfBounds("piece 24", () -> x.piece(24, 0));
        PieceDeposits y = Feed.book("book 0 0 1 0 0;piece abcdef;piece a;");
        Check.due("6 letters", y.piece(0, 0), 6);
        Check.due("1 letter", y.piece(1, 0), 1);
        Check.outOfBounds("piece 2", () -> y.piece(2, 0));
        Check.outOfBounds("piece 0 of none", () -> new PieceDeposits().piece(0, 0));
    }

    /** A new piece costs price + letter * its number of letters; the house has no owner, no price. */
    private static void promise8PriceAndOwner() {
        PieceDeposits least = Feed.book("book 0 0 1 9 0;user a 9;user b 9;");
        Feed.put(least, "abcdef").bring(1);
        piece(least, 0, 6, 0, 1, 0, 0);
        PieceDeposits most = Feed.book("book 99 9 1 9 0;user a 999;piece z;");
        Feed.put(most, "abcdef").bring(0);
        Feed.put(most, "a").bring(0);
        piece(most, 0, 1, 0, NONE, 0, 0);
        piece(most, 1, 6, 153, 0, 0, 0);
        piece(most, 2, 1, 108, 0, 0, 0);
    }

    /** How often it occurs in the cuttings of all words. */
    private static void promise8Uses() {
        PieceDeposits x = Feed.book("book 99 0 1 9 0;user a 999;user b 99;piece a;piece b;");
        piece(x, 0, 1, 0, NONE, 0, 0);
        Feed.put(x, "aaaaaaaaaaaa").store(0);
        piece(x, 0, 1, 0, NONE, 12, NONE);
        Feed.put(x, "aab").store(1);
        piece(x, 0, 1, 0, NONE, 14, NONE);
        piece(x, 1, 1, 0, NONE, 1, NONE);
        x.remove(0);
        piece(x, 0, 1, 0, NONE, 2, NONE);
        x.remove(0);
        piece(x, 0, 1, 0, NONE, 0, 0);
        PieceDeposits y = Feed.book("book 99 0 1 9 0;user a 999;piece a;" + words16());
        Check.due("16 words of 12 uses", y.piece(0, 3), 16 * 12);
    }

    private static String words16() {
        return "word a aaaaaaaaaaaa;".repeat(16);
    }

    /** NONE if it has uses; 0 for a piece of the house that never had any. */
    private static void promise8IdleOfAPieceOfTheHouse() {
        PieceDeposits x = Feed.book("book 0 0 1 0 0;user a 9;piece a;piece b;word a a;");
        Check.due("a is used", x.piece(0, 4), NONE);
        Check.due("b never was", x.piece(1, 4), 0);
        x.tick(3);
        Check.due("b never was", x.piece(1, 4), 0);
        x.remove(0);
        Check.due("the uses ended at 3", x.piece(0, 4), 3);
        x.tick(1);
        Feed.put(x, "a").store(0);
        Check.due("a is used", x.piece(0, 4), NONE);
        x.tick(1);
        x.remove(0);
        Check.due("the uses ended at 5", x.piece(0, 4), 5);
        Check.due("b never was", x.piece(1, 4), 0);
    }

    /** Idle since its uses became 0, or since it came into the book without uses. */
    private static void promise8IdleOfAPieceThatWasPaidFor() {
        PieceDeposits x = Feed.book("book 0 0 1 20 0;user a 99;");
        Feed.put(x, "a").bring(0);
        Check.due("brought at 0", x.piece(0, 4), 0);
        x.tick(1);
        Feed.put(x, "b").bring(0);
        Feed.put(x, "cc").store(0);
        Feed.put(x, "cca").store(0);
        Check.due("brought at 0", x.piece(0, 4), 0);
        Check.due("brought at 1", x.piece(1, 4), 1);
        Check.due("stored", x.piece(2, 4), NONE);
        x.tick(1);
        x.remove(0);
        Check.due("ended at 2", x.piece(2, 4), 2);
        Feed.put(x, "cc").store(0);
        Feed.put(x, "cc").store(0);
        x.tick(1);
        x.remove(1);
        Check.due("one use is left", x.piece(2, 4), NONE);
        x.tick(1);
        x.remove(1);
        Check.due("ended at 4", x.piece(2, 4), 4);
    }

    /** If a piece goes, those behind it get numbers that are less by 1. */
    private static void promise8NumbersWhenAPieceGoes() {
        String[][] due = {{"b", "c", "d"}, {"a", "c", "d"}, {"a", "b", "d"}, {"a", "b", "c"}};
        for (int gone = 0; gone < 4; gone++) {
            PieceDeposits x = Feed.book("book 9 0 1 0 0;user u 99;");
            for (int piece = 0; piece < 4; piece++) {
                Feed.put(x, Sample.ALPHABET.substring(piece, piece + 1));
                if (piece == gone) {
                    x.bring(0);
                } else {
                    x.store(0);
                }
            }
            Check.due("one goes", x.tick(1), 1);
            Check.outOfBounds("piece 3", () -> x.piece(3, 0));
            for (int piece = 0; piece < 3; piece++) {
                Check.dueText("piece " + piece, Feed.piece(x, piece), due[gone][piece]);
                Check.due("part of word " + piece, x.part(piece, 0), piece);
                Check.due("uses", x.piece(piece, 3), 1);
            }
            Feed.put(x, "x").bring(0);
            Check.dueText("a new one is the last", Feed.piece(x, 3), "x");
        }
    }

    // ---- promise 9

    /** NONE if it has not so many, or k is negative. */
    private static void promise9Letters() {
        PieceDeposits x = Feed.book("book 0 0 1 0 0;piece azaaaz;piece z;");
        int[] due = {NONE, 0, 25, 0, 0, 0, 25, NONE, NONE};
        for (int k = -1; k < 8; k++) {
            Check.due("letter " + k, x.pieceLetter(0, k), due[k + 1]);
        }
        Check.due("letter -1", x.pieceLetter(1, -1), NONE);
        Check.due("letter 0", x.pieceLetter(1, 0), 25);
        Check.due("letter 1", x.pieceLetter(1, 1), NONE);
        int[] far = {LEAST, LEAST + 1, -64, -13, -12, -5, 12, 13, 31, 32, 63, 64, 128, MOST};
        for (int k : far) {
            Check.due("letter " + k, x.pieceLetter(0, k), NONE);
        }
        Check.outOfBounds("piece 2", () -> x.pieceLetter(2, 0));
        Check.outOfBounds("piece 2, letter -1", () -> x.pieceLetter(2, -1));
    }

    // ---- promise 10

    private static void word(PieceDeposits x, int word, int... due) {
        for (int what = 0; what < due.length; what++) {
            Check.due("word " + word + " " + what, x.word(word, what), due[what]);
        }
    }

    private static void promise10FirstAndLastWord() {
        PieceDeposits x = Sample.full(1, 16);
        word(x, 0, 0, 1, 1, 1);
        word(x, 15, 0, 1, 1, 1);
        Check.outOfBounds("word 16", () -> x.word(16, 0));
        Check.outOfBounds("word 0 of none", () -> new PieceDeposits().word(0, 0));
        PieceDeposits y = Feed.book("book 99 0 9 0 0;user u 0;user v 999;piece a;word v a;"
                + "word v aaaaaaaaaaaa;");
        word(y, 0, 1, 1, 1, 9);
        word(y, 1, 1, 12, 12, 108);
        Check.outOfBounds("word 2", () -> y.word(2, 0));
    }

    /** If a word goes, those behind it get numbers that are less by 1. */
    private static void promise10NumbersWhenAWordGoes() {
        String[] all = {"a", "ab", "bab", "abab"};
        for (int gone = 0; gone < 4; gone++) {
            PieceDeposits x = Feed.book("book 99 0 2 0 0;user u 99;user v 99;piece a;piece b;"
                    + "word u a;word v ab;word u bab;word v abab;");
            x.remove(gone);
            Check.outOfBounds("word 3", () -> x.word(3, 0));
            for (int word = 0; word < 3; word++) {
                int old = word < gone ? word : word + 1;
                int letters = all[old].length();
                word(x, word, old % 2, letters, letters, 2 * letters);
                Check.dueText("letters", Feed.word(x, word), all[old]);
                Check.due("the last part", x.part(word, letters - 1), old == 0 ? 0 : 1);
                Check.due("no more", x.part(word, letters), NONE);
            }
            Check.due("a new one is the last", Feed.put(x, "b").store(1), 3);
            word(x, 3, 1, 1, 1, 2);
        }
    }

    // ---- promises 11 and 12

    /** NONE if it has not so many, or k is negative. */
    private static void promise11Letters() {
        PieceDeposits x = Feed.book("book 0 0 1 0 0;user u 9;word u azaaazzaaaaz;word u z;");
        int[] due = {NONE, 0, 25, 0, 0, 0, 25, 25, 0, 0, 0, 0, 25, NONE, NONE};
        for (int k = -1; k < 14; k++) {
            Check.due("letter " + k, x.wordLetter(0, k), due[k + 1]);
        }
        Check.due("letter -1", x.wordLetter(1, -1), NONE);
        Check.due("letter 0", x.wordLetter(1, 0), 25);
        Check.due("letter 1", x.wordLetter(1, 1), NONE);
        int[] far = {LEAST, LEAST + 1, -64, -13, -12, -5, 14, 31, 32, 63, 64, 128, MOST};
        for (int k : far) {
            Check.due("letter " + k, x.wordLetter(0, k), NONE);
        }
        Check.outOfBounds("word 2", () -> x.wordLetter(2, 0));
        Check.outOfBounds("word 2, letter -1", () -> x.wordLetter(2, -1));
    }

    /** NONE if the cutting has not so many, or k is negative. */
    private static void promise12Parts() {
        PieceDeposits x = Feed.book("book 99 0 1 0 0;user u 999;piece a;piece b;word u abababababab;"
                + "word u b;word u ab;");
        for (int k = -1; k < 14; k++) {
            int due = k < 0 || k > 11 ? NONE : k % 2;
            Check.due("part " + k, x.part(0, k), due);
        }
        Check.due("part -1", x.part(1, -1), NONE);
        Check.due("part 0", x.part(1, 0), 1);
        Check.due("part 1", x.part(1, 1), NONE);
        Check.due("part 0", x.part(2, 0), 0);
        Check.due("part 1", x.part(2, 1), 1);
        Check.due("part 2", x.part(2, 2), NONE);
        int[] far = {LEAST, LEAST + 1, -64, -13, -12, 14, 24, 32, 64, MOST};
        for (int k : far) {
            Check.due("part " + k, x.part(0, k), NONE);
            Check.due("part " + k, x.part(1, k), NONE);
        }
        Check.outOfBounds("word 3", () -> x.part(3, 0));
        Check.outOfBounds("word 3, part -1", () -> x.part(3, -1));
        Feed.put(x, "ab").bring(0);
        x.recut(0);
        Check.due("part 5", x.part(0, 5), 2);
        Check.due("part 6", x.part(0, 6), NONE);
    }
}
