/** The boundaries of promises 24 to 30: changes. */
final class ChangeEdgeTest {
    private static final int NONE = PieceDeposits.NONE;

    private ChangeEdgeTest() {
    }

    static void run() {
        promise24Coins();
        promise24OrderOfNewPieces();
        promise24WordsAndPieces();
        promise24NumberOfTheWord();
        promise25FirstAndLastWord();
        promise25DepositsOfItsUserAlone();
        promise25UsesEnd();
        promise26FewestPieces();
        promise26PiecesOfTheBookAlone();
        promise26UsesBeginBeforeUsesEnd();
        promise27AscendingOrder();
        promise27OneChange();
        promise28LettersOfThePiece();
        promise28Pieces();
        promise28Coins();
        promise28WithoutUses();
        promise29Ticks();
        promise29MoreThanKeep();
        promise29KeepCountsFromTheLatestEnd();
        promise29HouseAndUsesStay();
        promise29OneTickAfterTheOther();
        promise29Refund();
        promise29RefundOfEachPiece();
        promise29OwnerGetsIt();
        promise30Coins();
        promise30Users();
        coinsNeverChange();
    }

    private static int store(PieceDeposits x, String word, int user) {
        return Feed.put(x, word).store(user);
    }

    private static int bring(PieceDeposits x, String word, int user) {
        return Feed.put(x, word).bring(user);
    }

    private static void coins(PieceDeposits x, int... due) {
        for (int user = 0; user < due.length; user++) {
            Check.due("coins of " + user, x.user(user, 0), due[user]);
        }
    }

    // ---- promise 24

    /** Refused if the user has not so many coins: the price once, a deposit for each piece. */
    private static void promise24Coins() {
        PieceDeposits x = Feed.book("book 5 1 2 0 0;user u 14;user v 15;user w 16;");
        Feed.put(x, "yyyyyyyyyyyy");
        Check.badState("a coin too few", () -> x.store(0));
        Check.due("as many as needed", store(x, "yyyyyyyyyyyy", 1), 0);
        coins(x, 14, 0, 16);
        Check.due("the chest", x.size(4), 11);
        Check.due("the fund", x.size(5), 4);
        x.undo();
        Check.due("one more", store(x, "yyyyyyyyyyyy", 2), 0);
        coins(x, 14, 15, 1);
        // Now y is in the book: the deposits alone, two for each word.
        Check.due("known pieces", store(x, "yyyyyyyyyyyy", 0), 1);
        coins(x, 10, 15, 1);
        Feed.put(x, "yyyyyy");
        Check.badState("a coin too few", () -> x.store(2));
        x.pay(1, 2, 1);
        Check.due("as many as needed", store(x, "yyyyyy", 2), 2);
        coins(x, 10, 14, 0);
        PieceDeposits most = Feed.book("book 99 9 9 0 0;user u 323;user v 324;");
        Feed.put(most, "abcdefghijkl");
        Check.badState("a coin too few", () -> most.store(0));
        Check.due("as many as needed", store(most, "abcdefghijkl", 1), 0);
        coins(most, 323, 0);
        PieceDeposits none = Feed.book("book 0 0 1 0 0;user u 0;user v 1;");
        Feed.put(none, "a");
        Check.badState("a deposit is needed", () -> none.store(0));
        Check.due("as many as needed", store(none, "a", 1), 0);
    }

    /** Each piece that is not in the book comes into it, in the order in which it occurs first. */
    private static void promise24OrderOfNewPieces() {
        PieceDeposits x = Feed.book("book 1 0 9 0 0;user u 99;user v 99;piece zz;");
        store(x, "bbbbbbaaaaaa", 1);
        Check.due("pieces", x.size(1), 3);
        Check.dueText("the first", Feed.piece(x, 1), "bbbbbb");
        Check.dueText("the second", Feed.piece(x, 2), "aaaaaa");
        store(x, "ccccccbbbbbb", 0);
        Check.dueText("a new one beside a known one", Feed.piece(x, 3), "cccccc");
        store(x, "dddddddddddd", 0);
        Check.due("one piece for two uses", x.size(1), 5);
        Check.due("its uses", x.piece(4, 3), 2);
        int[] owners = {NONE, 1, 1, 0, 0};
        int[] uses = {0, 2, 1, 1, 2};
        for (int piece = 0; piece < 5; piece++) {
            Check.due("owner of " + piece, x.piece(piece, 2), owners[piece]);
            Check.due("uses of " + piece, x.piece(piece, 3), uses[piece]);
        }
    }

    /** Refused if there are 16 words already, or if there would be more than 24 pieces. */
    private static void promise24WordsAndPieces() {
        PieceDeposits words = Sample.full(1, 15);
        Check.due("the 16th word", store(words, "a", 0), 15);
        Feed.put(words, "a");
        Check.badState("the 17th word", () -> words.store(0));
        words.remove(3);
        Check.due("16 again", store(words, "a", 0), 15);
        PieceDeposits two = Sample.full(22, 0);
        Check.due("24 pieces", store(two, "yyyyyyzzzzzz", 0), 0);
        Check.due("pieces", two.size(1), 24);
        Feed.put(two, "x");
        Check.badState("25 pieces", () -> two.store(0));
        Check.due("known ones", store(two, "ab", 0) + store(two, "a", 0), 3);
        PieceDeposits one = Sample.full(23, 0);
        Feed.put(one, "yyyyyyzzzzzz");
        Check.badState("25 pieces", () -> one.store(0));
        Check.due("none of them came", one.size(1), 23);
        Check.due("24 pieces", store(one, "yyyyyyyyyyyy", 0), 0);
        Check.due("pieces", one.size(1), 24);
    }

    /** Returns the number of the word. */
    private static void promise24NumberOfTheWord() {
        PieceDeposits x = Sample.full(2, 0);
        for (int word = 0; word < 16; word++) {
            Check.due("number", store(x, word % 2 == 0 ? "a" : "b", 0), word);
        }
        x.remove(0);
        x.remove(0);
        Check.due("number", store(x, "ab", 0), 14);
        Check.dueText("it is the last", Feed.word(x, 14), "ab");
        Check.dueText("those behind moved up", Feed.word(x, 13), "b");
    }

    // ---- promise 25

    /** Returns the coins of its user then. */
    private static void promise25FirstAndLastWord() {
        PieceDeposits x = Feed.book("book 99 0 9 0 0;user u 500;user v 500;piece a;"
                + "word u aaaaaaaaaaaa;word v a;word u aa;");
        coins(x, 500 - 126, 491);
        Check.due("the last", x.remove(2), 500 - 108);
        Check.outOfBounds("word 2", () -> x.remove(2));
        Check.due("the first", x.remove(0), 500);
        Check.due("the only one", x.remove(0), 500);
        Check.outOfBounds("word 0", () -> x.remove(0));
        Check.due("the fund is empty", x.size(5), 0);
        PieceDeposits full = Sample.full(1, 16);
        Check.outOfBounds("word 16", () -> full.remove(16));
        Check.due("word 15", full.remove(15), 84);
        Check.outOfBounds("word 15", () -> full.remove(15));
    }

    private static void promise25DepositsOfItsUserAlone() {
        PieceDeposits x = Feed.book("book 7 0 3 9 0;user u 50;user v 50;word u ab;word v ab;");
        coins(x, 40, 47);
        Check.due("v gets a deposit, no price", x.remove(1), 50);
        Check.due("u gets a deposit, no price", x.remove(0), 43);
        Check.due("the chest keeps the price", x.size(4), 7);
        Check.due("the piece is u's", x.user(0, 3), 1);
    }

    /** The uses of its pieces end, each time that it occurs. */
    private static void promise25UsesEnd() {
        PieceDeposits x = Feed.book("book 99 0 1 9 0;user u 99;piece a;piece b;word u abba;"
                + "word u ba;");
        x.tick(2);
        x.remove(0);
        Check.due("uses of a", x.piece(0, 3), 1);
        Check.due("uses of b", x.piece(1, 3), 1);
        Check.due("not idle", x.piece(0, 4), NONE);
        x.tick(1);
        x.remove(0);
        Check.due("uses of a", x.piece(0, 3), 0);
        Check.due("idle since 3", x.piece(0, 4), 3);
        Check.due("idle since 3", x.piece(1, 4), 3);
    }

    // ---- promise 26

    private static PieceDeposits longWord() {
        return Feed.book("book 99 0 5 9 0;user u 999;user v 999;piece a;word u aaaaaaaaaaaa;"
                + "word v aaaaaa;");
    }

    /** Into the fewest pieces that are in the book now; the longest first piece of several. */
    private static void promise26FewestPieces() {
        PieceDeposits x = longWord();
        Check.due("nothing to be had", x.recut(0), 0);
        bring(x, "aa", 1);
        Check.due("6 pieces less", x.recut(0), 30);
        Check.due("nothing more", x.recut(0), 0);
        bring(x, "aaaaa", 1);
        Check.due("3 pieces less", x.recut(0), 15);
        Check.dueText("the longest first", Feed.cutting(x, 0), "aaaaa.aaaaa.aa");
        coins(x, 999 - 60 + 45, 999 - 30 - 198);
        Check.dueText("the other word stays", Feed.cutting(x, 1), "a.a.a.a.a.a");
        bring(x, "aaaaaa", 1);
        Check.due("one piece less", x.recut(0), 5);
        Check.due("5 pieces less", x.recut(1), 25);
        Check.due("the fund", x.size(5), 15);
        bring(x, "aaa", 1);
        Check.due("as few", x.recut(0), 0);
        Check.dueText("the longest first", Feed.cutting(x, 0), "aaaaaa.aaaaaa");
        Check.outOfBounds("word 2", () -> x.recut(2));
    }

    private static void promise26PiecesOfTheBookAlone() {
        // The new piece ab costs 5 when it is stored, and is not bought when it is cut anew.
        PieceDeposits x = Feed.book("book 3 0 2 9 0;user u 99;piece a;piece b;word u ab;");
        Check.due("nothing", x.recut(0), 0);
        Check.due("nothing", x.recutAll(), 0);
        Check.dueText("as before", Feed.cutting(x, 0), "a.b");
        Check.due("no piece came", x.size(1), 2);
        coins(x, 95);
        bring(x, "abc", 0);
        Check.due("of no use", x.recut(0), 0);
        bring(x, "ab", 0);
        Check.due("a piece less", x.recut(0), 2);
    }

    /** Uses that begin are counted before uses that end: a piece of both is never idle. */
    private static void promise26UsesBeginBeforeUsesEnd() {
        PieceDeposits x = Feed.book("book 9 0 1 0 0;user u 99;word u abcdef;");
        x.tick(4);
        x.recut(0);
        Check.due("used once", x.piece(0, 3), 1);
        Check.due("not idle", x.piece(0, 4), NONE);
        x.recutAll();
        Check.due("used once", x.piece(0, 3), 1);
        Check.due("nothing goes", x.tick(30), 0);
        // A piece that no cutting has any more is idle since then.
        PieceDeposits y = Feed.book("book 50 0 1 5 0;user u 99;piece a;piece b;word u ab;");
        y.tick(3);
        bring(y, "ab", 0);
        y.recut(0);
        Check.due("a is idle", y.piece(0, 4), 3);
        Check.due("b is idle", y.piece(1, 4), 3);
        Check.due("ab is used", y.piece(2, 4), NONE);
    }

    // ---- promise 27

    private static void promise27AscendingOrder() {
        PieceDeposits x = longWord();
        store(x, "a", 0);
        bring(x, "aaa", 0);
        Check.due("8 and 4 pieces less", x.recutAll(), 60);
        coins(x, 999 - 65 - 99 + 40, 999 - 30 + 20);
        Check.dueText("the first", Feed.cutting(x, 0), "aaa.aaa.aaa.aaa");
        Check.dueText("the second", Feed.cutting(x, 1), "aaa.aaa");
        Check.dueText("the last", Feed.cutting(x, 2), "a");
        Check.due("uses of a", x.piece(0, 3), 1);
        Check.due("uses of aaa", x.piece(1, 3), 6);
        Check.due("nothing more", x.recutAll(), 0);
        Check.due("without words", new PieceDeposits().recutAll(), 0);
        PieceDeposits full = Sample.full(1, 16);
        Check.due("16 words", full.recutAll(), 0);
    }

    /** This is one change, also without any word. */
    private static void promise27OneChange() {
        PieceDeposits x = longWord();
        bring(x, "aaa", 0);
        String before = Feed.stateBesidesUndo(x);
        x.recutAll();
        Check.due("two changes", x.size(11), 2);
        Check.due("one is left", x.undo(), 1);
        Check.dueText("all words are as before", Feed.stateBesidesUndo(x), before);
        PieceDeposits y = new PieceDeposits();
        y.recutAll();
        Check.due("a change", y.size(11), 1);
    }

    // ---- promise 28

    /** A word of at most 6 letters. */
    private static void promise28LettersOfThePiece() {
        PieceDeposits x = Feed.book("book 1 2 1 0 0;user u 99;");
        for (int letters = 1; letters <= 13; letters++) {
            String word = Sample.ALPHABET.substring(0, letters);
            Feed.put(x, word);
            if (letters <= 6) {
                Check.due("number", x.bring(0), letters - 1);
                Check.dueText("piece", Feed.piece(x, letters - 1), word);
                Check.due("price", x.piece(letters - 1, 1), 1 + 2 * letters);
            } else {
                Check.badArgument(letters + " letters", () -> x.bring(0));
            }
        }
        Check.badArgument("no letter", () -> x.bring(0));
        Check.due("pieces", x.size(1), 6);
    }

    /** IllegalStateException if there are 24 pieces. */
    private static void promise28Pieces() {
        PieceDeposits x = Sample.full(22, 0);
        Check.due("the 23rd", bring(x, "y", 0), 22);
        Check.due("the 24th", bring(x, "z", 0), 23);
        Feed.put(x, "x");
        Check.badState("the 25th", () -> x.bring(0));
        x.tick(1);
        Check.due("two went back", x.size(1), 22);
        Check.due("the 23rd", bring(x, "x", 0), 22);
    }

    /** ... or the user has not so many coins. */
    private static void promise28Coins() {
        PieceDeposits x = Feed.book("book 5 2 9 0 0;user u 8;user v 9;user w 10;");
        Feed.put(x, "ab");
        Check.badState("a coin too few", () -> x.bring(0));
        Check.due("as many as needed", bring(x, "ab", 1), 0);
        Check.due("one more", bring(x, "cd", 2), 1);
        coins(x, 8, 0, 1);
        Check.due("the chest", x.size(4), 18);
        Check.due("no deposit", x.size(5), 0);
        PieceDeposits free = Feed.book("book 0 0 9 0 0;user u 0;");
        Check.due("for nothing", bring(free, "abcdef", 0), 0);
        PieceDeposits most = Feed.book("book 99 9 9 0 0;user u 152;user v 153;");
        Feed.put(most, "abcdef");
        Check.badState("a coin too few", () -> most.bring(0));
        Check.due("as many as needed", bring(most, "abcdef", 1), 0);
    }

    private static void promise28WithoutUses() {
        PieceDeposits x = Feed.book("book 1 0 1 0 0;user u 9;user v 9;piece q;");
        x.tick(3);
        Check.due("behind the others", bring(x, "ab", 1), 1);
        Check.due("no uses", x.piece(1, 3), 0);
        Check.due("idle since now", x.piece(1, 4), 3);
        Check.due("its owner", x.piece(1, 2), 1);
        Feed.put(x, "ab");
        Check.badArgument("the book has it", () -> x.bring(0));
        Check.due("it goes", x.tick(1), 1);
        Check.due("the book has it no more", bring(x, "ab", 0), 1);
        Check.due("another owner", x.piece(1, 2), 0);
    }

    // ---- promise 29

    /** ticks: 1 to 30. */
    private static void promise29Ticks() {
        PieceDeposits x = new PieceDeposits();
        int time = 0;
        for (int ticks = 1; ticks <= 30; ticks++) {
            Check.due("none goes", x.tick(ticks), 0);
            time += ticks;
            Check.due("the time", x.size(3), time);
        }
        int[] out = {Integer.MIN_VALUE, -30, -1, 0, 31, 32, 60, Integer.MAX_VALUE};
        for (int ticks : out) {
            Check.badArgument("tick(" + ticks + ")", () -> x.tick(ticks));
        }
        Check.due("the time", x.size(3), time);
    }

    /** Idle for more than keep ticks. */
    private static void promise29MoreThanKeep() {
        int[] keeps = {0, 1, 2, 19, 20};
        for (int keep : keeps) {
            PieceDeposits x = Feed.book("book 1 0 1 " + keep + " 0;user u 9;");
            x.tick(7);
            bring(x, "ab", 0);
            if (keep > 0) {
                Check.due("idle for keep", x.tick(keep), 0);
                Check.due("it stays", x.size(1), 1);
            }
            Check.due("idle for one more", x.tick(1), 1);
            Check.due("it goes", x.size(1), 0);
            Check.due("no other", x.tick(30), 0);
            bring(x, "ab", 0);
            Check.due("in one call", x.tick(keep + 1), 1);
        }
    }

    /** Idle since the time at which its uses became 0. */
    private static void promise29KeepCountsFromTheLatestEnd() {
        PieceDeposits x = Feed.book("book 1 0 1 2 0;user u 20;");
        store(x, "ab", 0);
        store(x, "ab", 0);
        x.tick(5);
        x.remove(0);
        Check.due("one use is left", x.tick(5), 0);
        x.remove(0);
        Check.due("idle for 2", x.tick(2), 0);
        store(x, "ab", 0);
        Check.due("used again", x.tick(1), 0);
        x.remove(0);
        Check.due("idle for 2", x.tick(2), 0);
        Check.due("idle for 3", x.tick(1), 1);
        bring(x, "ab", 0);
        x.tick(2);
        store(x, "ab", 0);
        x.remove(0);
        Check.due("uses that ended at once count, too", x.tick(2), 0);
        Check.due("idle for 3", x.tick(1), 1);
    }

    /** Not of the house, no uses. */
    private static void promise29HouseAndUsesStay() {
        PieceDeposits x = Feed.book("book 0 0 1 0 100;user u 9;piece a;word u a;word u b;");
        Check.due("a is of the house, b is used", x.tick(30), 0);
        x.remove(0);
        Check.due("a has no uses, b has", x.tick(30), 0);
        x.remove(0);
        Check.due("b goes, though its price was 0", x.tick(1), 1);
        Check.dueText("a stays", Feed.piece(x, 0), "a");
        Check.due("a piece that went back", x.account(5), 1);
        Check.due("for nothing", x.account(1), 0);
    }

    private static void promise29OneTickAfterTheOther() {
        PieceDeposits x = Feed.book("book 1 0 1 3 100;user u 99;user v 99;piece q;");
        bring(x, "a", 0);
        x.tick(1);
        bring(x, "b", 1);
        bring(x, "c", 0);
        x.tick(1);
        bring(x, "d", 1);
        coins(x, 97, 97);
        Check.due("a", x.tick(2), 1);
        coins(x, 98, 97);
        Check.due("b and c", x.tick(1), 2);
        coins(x, 99, 98);
        Check.due("d", x.tick(1), 1);
        coins(x, 99, 99);
        Check.due("none", x.tick(1), 0);
        x.undo();
        x.undo();
        x.undo();
        x.undo();
        Check.due("all in one call", x.tick(4), 4);
        Check.due("q is left", x.size(1), 1);
        coins(x, 99, 99);
    }

    /** price * refund / 100: the division truncates. */
    private static void promise29Refund() {
        int[][] due = {{99, 0, 1, 0}, {99, 1, 1, 1}, {98, 1, 1, 0}, {0, 1, 100, 1},
            {0, 1, 99, 0}, {1, 0, 50, 0}, {1, 1, 50, 1}, {2, 1, 50, 1}, {3, 1, 50, 2},
            {99, 9, 0, 0}, {99, 9, 100, 108}, {99, 9, 99, 106}, {0, 0, 100, 0},
            {66, 1, 3, 2}, {65, 1, 3, 1}};
        for (int[] d : due) {
            PieceDeposits x = Feed.book("book " + d[0] + " " + d[1] + " 1 0 " + d[2]
                    + ";user u 999;");
            bring(x, "a", 0);
            int price = d[0] + d[1];
            Check.due("one", x.tick(1), 1);
            coins(x, 999 - price + d[3]);
            Check.due("the chest", x.size(4), price - d[3]);
            Check.due("refunds", x.account(1), d[3]);
        }
    }

    private static void promise29RefundOfEachPiece() {
        PieceDeposits x = Feed.book("book 1 0 1 0 50;user u 99;");
        bring(x, "a", 0);
        bring(x, "b", 0);
        bring(x, "c", 0);
        Check.due("all", x.tick(1), 3);
        Check.due("halves are no coins", x.user(0, 0), 96);
        Check.due("the chest", x.size(4), 3);
        PieceDeposits y = Feed.book("book 0 1 1 0 50;user u 99;");
        bring(y, "aaa", 0);
        bring(y, "bbb", 0);
        Check.due("both", y.tick(1), 2);
        Check.due("one coin for each", y.user(0, 0), 95);
    }

    /** Its owner gets it, whoever used it. */
    private static void promise29OwnerGetsIt() {
        PieceDeposits x = Feed.book("book 10 0 1 0 50;user u 50;user v 50;user w 50;user x 50;");
        bring(x, "ab", 2);
        store(x, "ab", 0);
        store(x, "cd", 3);
        x.remove(0);
        x.remove(0);
        coins(x, 50, 50, 40, 40);
        Check.due("both", x.tick(1), 2);
        coins(x, 50, 50, 45, 45);
    }

    // ---- promise 30

    /** coins: 0 to 9999; the user must have so many. */
    private static void promise30Coins() {
        PieceDeposits x = Feed.book("book 0 0 1 0 0;user u 9999;user v 9999;user w 0;");
        Check.due("nothing", x.pay(0, 1, 0), 9999);
        Check.due("one", x.pay(0, 2, 1), 1);
        Check.badState("a coin too few", () -> x.pay(0, 2, 9999));
        Check.due("all", x.pay(0, 2, 9998), 9999);
        Check.badState("none is left", () -> x.pay(0, 2, 1));
        Check.due("nothing can be paid", x.pay(0, 2, 0), 9999);
        Check.due("the most", x.pay(1, 2, 9999), 19998);
        Check.badArgument("10000", () -> x.pay(2, 0, 10000));
        Check.due("the most", x.pay(2, 0, 9999), 9999);
        Check.badArgument("-1", () -> x.pay(2, 0, -1));
        coins(x, 9999, 0, 9999);
    }

    /** To another one, or to itself. */
    private static void promise30Users() {
        PieceDeposits x = Feed.book("book 0 0 1 0 0;user u 5;user v 6;user w 7;user x 8;");
        Check.due("the last one", x.pay(0, 3, 5), 13);
        Check.due("the first one", x.pay(3, 0, 13), 13);
        coins(x, 13, 6, 7, 0);
        Check.due("to itself", x.pay(2, 2, 7), 7);
        Check.due("to itself", x.pay(2, 2, 6), 7);
        Check.badState("a coin too few", () -> x.pay(2, 2, 8));
        Check.due("nothing to itself", x.pay(3, 3, 0), 0);
        coins(x, 13, 6, 7, 0);
        Check.outOfBounds("user 4", () -> x.pay(4, 0, 0));
        Check.outOfBounds("other 4", () -> x.pay(0, 4, 0));
        Check.due("changes", x.size(11), 5);
    }

    // ---- all of them

    /** The coins of all users, of the chest and of the fund together never change. */
    private static void coinsNeverChange() {
        PieceDeposits x = Feed.book("book 7 3 2 1 33;user u 400;user v 300;user w 0;piece a;"
                + "word u abc;");
        all(x, 700);
        store(x, "abcabc", 1);
        all(x, 700);
        bring(x, "cd", 0);
        all(x, 700);
        x.recut(0);
        all(x, 700);
        x.recutAll();
        all(x, 700);
        x.remove(0);
        all(x, 700);
        x.pay(0, 2, 5);
        all(x, 700);
        x.tick(9);
        all(x, 700);
        x.undo();
        all(x, 700);
    }

    private static void all(PieceDeposits x, int due) {
        Check.due("all coins", x.user(0, 0) + x.user(1, 0) + x.user(2, 0) + x.size(4) + x.size(5),
                due);
    }
}
