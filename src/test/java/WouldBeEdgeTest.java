/** The boundaries of the cutting, and of promises 13 to 23: what would be. */
final class WouldBeEdgeTest {
    private static final int NONE = PieceDeposits.NONE;

    private WouldBeEdgeTest() {
    }

    static void run() {
        cuttingLeastCost();
        cuttingPriceEachTimeThatItOccurs();
        cuttingFewestPieces();
        cuttingLongestFirst();
        cuttingOfPiecesOfAtMost6Letters();
        promise13LeastAndMost();
        promise13PriceOnce();
        promise13WhetherItIsRefusedOrNot();
        promise13NoWord();
        promise14NoWordFirst();
        promise14Words();
        promise14Pieces();
        promise14Coins();
        promise14FirstReason();
        promise15Ways();
        promise16Fewest();
        promise17Saving();
        promise15To18PiecesOfTheBookAlone();
        promise18LeastGain();
        promise18PartsOf1To6Letters();
        promise18NotInTheBook();
        promise18GreatestNumber();
        promise18ShortestOne();
        promise18BeginsFirst();
        promise18AllWords();
        promise19Shared();
        promise20Favourite();
        promise21Richest();
        promise22IsWhole();
        promise23SumsOfAText();
        promise23EachSum();
        promise23UndoSnapshotAndParse();
        nothingChangesButTheBuffer();
    }

    // ---- cutting

    private static void cutting(String book, String word, String due) {
        PieceDeposits x = Feed.book(book + "user u 9999;");
        Feed.put(x, word).store(0);
        Check.dueText("cutting of " + word + " with " + book, Feed.cutting(x, 0), due);
    }

    /** The one with the least cost: a coin more or less for the new piece decides. */
    private static void cuttingLeastCost() {
        // a.b.c costs 6; abc costs 2 and its price.
        cutting("book 3 0 2 0 0;piece a;piece b;piece c;", "abc", "abc");
        cutting("book 4 0 2 0 0;piece a;piece b;piece c;", "abc", "abc");
        cutting("book 5 0 2 0 0;piece a;piece b;piece c;", "abc", "a.b.c");
        // The price with that of the letters: 1 + 3 letters is as much as two deposits.
        cutting("book 0 1 2 0 0;piece a;piece b;piece c;", "abc", "abc");
        cutting("book 1 1 2 0 0;piece a;piece b;piece c;", "abc", "abc");
        cutting("book 2 1 2 0 0;piece a;piece b;piece c;", "abc", "a.b.c");
        // A shorter new piece that costs less, beside a known one.
        cutting("book 0 2 1 0 0;piece b;", "ab", "a.b");
        cutting("book 0 1 1 0 0;piece b;", "ab", "ab");
        cutting("book 0 1 2 0 0;piece b;", "ab", "ab");
    }

    /** In addition the price of a new piece if it is not in the book (each time that it occurs). */
    private static void cuttingPriceEachTimeThatItOccurs() {
        String known = " 0 1 0 0;piece abc;piece def;";
        // abcdef twice costs 2 and the price twice; abc.def.abc.def costs 4.
        cutting("book 0" + known, "abcdefabcdef", "abcdef.abcdef");
        cutting("book 1" + known, "abcdefabcdef", "abcdef.abcdef");
        cutting("book 2" + known, "abcdefabcdef", "abc.def.abc.def");
        // The second use of a new piece is no cheaper than the first.
        cutting("book 7 0 4 0 0;piece abc;piece def;", "abcdefabcdef", "abc.def.abc.def");
        cutting("book 4 0 4 0 0;piece abc;piece def;", "abcdefabcdef", "abcdef.abcdef");
        cutting("book 5 0 4 0 0;piece abc;piece def;", "abcdefabcdef", "abc.def.abc.def");
    }

    /** Of several cuttings with the same cost, the one with the fewest pieces. */
    private static void cuttingFewestPieces() {
        cutting("book 2 0 2 0 0;piece a;piece b;", "ab", "ab");
        cutting("book 3 0 2 0 0;piece a;piece b;", "ab", "a.b");
        // abcd costs two new letters more than ab.cd, which costs a deposit more.
        cutting("book 3 1 1 0 0;piece ab;", "abcd", "ab.cd");
        cutting("book 2 1 1 0 0;piece ab;", "abcd", "ab.cd");
        cutting("book 0 1 2 0 0;piece ab;", "abcd", "abcd");
        cutting("book 0 1 3 0 0;piece ab;", "abcd", "abcd");
        cutting("book 0 1 1 0 0;piece ab;", "abcd", "ab.cd");
        // The fewest pieces come before the longest first piece: with the deposit 2 abc.de.fghijk
        // (de is new) costs 6 + 2 as abcdef.gh.ij.k does, with 1 it costs more.
        String known = " 0 0;piece abcdef;piece gh;piece ij;piece k;piece abc;piece fghijk;";
        cutting("book 0 1 1" + known, "abcdefghijk", "abcdef.gh.ij.k");
        cutting("book 0 1 2" + known, "abcdefghijk", "abc.de.fghijk");
        cutting("book 0 1 3" + known, "abcdefghijk", "abcdef.ghijk");
    }

    /** Of several such ones, the longest first piece, then the longest second piece, and so on. */
    private static void cuttingLongestFirst() {
        String known = "book 99 0 1 0 0;piece a;piece ab;piece abc;piece b;piece bc;piece bcd;"
                + "piece c;piece cd;piece d;";
        cutting(known, "abcd", "abc.d");
        cutting(known, "abcdabcd", "abc.d.abc.d");
        cutting(known, "dabcd", "d.abc.d");
        cutting("book 99 0 1 0 0;piece a;piece bcd;piece ab;piece cd;", "abcd", "ab.cd");
        // The first pieces are as long; then the second, and then the third one decides.
        cutting("book 99 0 1 0 0;piece x;piece a;piece bcd;piece ab;piece cd;", "xabcd",
                "x.ab.cd");
        cutting("book 99 0 1 0 0;piece x;piece y;piece a;piece bcd;piece ab;piece cd;", "xyabcd",
                "x.y.ab.cd");
        // New pieces alone, without a price: 6 letters first.
        cutting("book 0 0 1 0 0;", "abcdefg", "abcdef.g");
        cutting("book 0 0 1 0 0;", "abcdefghijk", "abcdef.ghijk");
        // All cuttings into two new pieces cost the same: 99 + 99 and 9 a letter.
        cutting("book 99 9 1 0 0;", "abcdefgh", "abcdef.gh");
    }

    /** A piece is a row of 1 to 6 letters. */
    private static void cuttingOfPiecesOfAtMost6Letters() {
        String[] due = {"a", "ab", "abc", "abcd", "abcde", "abcdef", "abcdef.g", "abcdef.gh",
            "abcdef.ghi", "abcdef.ghij", "abcdef.ghijk", "abcdef.ghijkl"};
        for (int letters = 1; letters <= 12; letters++) {
            cutting("book 9 0 9 0 0;", Sample.ALPHABET.substring(0, letters), due[letters - 1]);
        }
    }

    // ---- promise 13

    private static void quote(PieceDeposits x, String word, int... due) {
        for (int what = 0; what < 5; what++) {
            Check.due("quote " + what + " of " + word, Feed.put(x, word).quote(what), due[what]);
        }
    }

    private static void promise13LeastAndMost() {
        PieceDeposits least = Feed.book("book 0 0 1 0 0;piece a;");
        quote(least, "a", 1, 1, 0, 1, 0);
        quote(least, "b", 1, 1, 0, 1, 1);
        quote(least, "abcdef", 1, 1, 0, 1, 1);
        quote(least, "abcdefg", 2, 2, 0, 2, 2);
        PieceDeposits most = Feed.book("book 99 9 9 0 0;piece a;");
        quote(most, "a", 9, 9, 0, 1, 0);
        quote(most, "b", 117, 9, 108, 1, 1);
        quote(most, "aaaaaaaaaaaa", 108, 108, 0, 12, 0);
        quote(most, "bcdefghijklm", 324, 18, 306, 2, 2);
    }

    /** Who pays its price once: the cost of the cutting is more than what is paid. */
    private static void promise13PriceOnce() {
        PieceDeposits x = Feed.book("book 5 1 2 0 0;");
        quote(x, "abcdefabcdef", 15, 4, 11, 2, 1);
        quote(x, "abcdefabcdeg", 26, 4, 22, 2, 2);
        quote(x, "aaaaaaaaaaaa", 15, 4, 11, 2, 1);
        quote(x, "aaaaaaaaaaa", 25, 4, 21, 2, 2);
    }

    /** Tells what it would cost, whether it is refused or not. */
    private static void promise13WhetherItIsRefusedOrNot() {
        quote(new PieceDeposits(), "abc", 1, 1, 0, 1, 1);
        quote(Feed.book("book 5 1 2 0 0;user u 0;"), "abc", 10, 2, 8, 1, 1);
        PieceDeposits pieces = Sample.full(24, 0);
        quote(pieces, "yyyyyyzzzzzz", 16, 2, 14, 2, 2);
        PieceDeposits words = Sample.full(1, 16);
        quote(words, "yyyyyyzzzzzz", 16, 2, 14, 2, 2);
        quote(words, "a", 1, 1, 0, 1, 0);
    }

    /** NONE if there is no word in the buffer, whatever is asked for. */
    private static void promise13NoWord() {
        PieceDeposits x = Feed.book("book 5 1 2 0 0;user u 99;");
        for (int what = 0; what < 5; what++) {
            Check.due("an empty buffer", x.quote(what), NONE);
            Check.due("no word", Feed.put(x, "a b").quote(what), NONE);
            Check.due("13 letters", Feed.put(x, "abcdefghijklm").quote(what), NONE);
        }
    }

    // ---- promise 14

    private static void why(PieceDeposits x, String word, int user, int due) {
        Check.due("why not " + word, Feed.put(x, word).whyNotStore(user), due);
        // The answer is kept: store is refused if and only if there is a reason.
        Feed.put(x, word);
        Check.dueThrown("store of " + word, () -> x.store(user),
                due == 0 ? "nothing" : due == 1 ? Refusal.ARGUMENT : Refusal.STATE);
        if (due == 0) {
            x.undo();
        }
    }

    /** 1 there is no word in the buffer: before all other reasons. */
    private static void promise14NoWordFirst() {
        PieceDeposits x = Feed.book("book 1 1 1 0 0;user u 22;user v 0;" + Sample.pieces(24)
                + Sample.words(16));
        why(x, "", 0, 1);
        why(x, "a b", 1, 1);
        why(x, "abcdefghijklm", 1, 1);
        why(x, "A", 0, 1);
        why(x, "yyyyyyzzzzzz", 1, 2);
    }

    /** 2 there are 16 words already. */
    private static void promise14Words() {
        why(Sample.full(1, 14), "a", 0, 0);
        why(Sample.full(1, 15), "a", 0, 0);
        PieceDeposits full = Sample.full(1, 16);
        why(full, "a", 0, 2);
        full.remove(0);
        why(full, "a", 0, 0);
    }

    /** 3 there would be more than 24 pieces. */
    private static void promise14Pieces() {
        why(Sample.full(22, 0), "yyyyyyzzzzzz", 0, 0);
        why(Sample.full(23, 0), "yyyyyyzzzzzz", 0, 3);
        why(Sample.full(23, 0), "yyyyyyyyyyyy", 0, 0);
        why(Sample.full(23, 0), "y", 0, 0);
        why(Sample.full(24, 0), "y", 0, 3);
        why(Sample.full(24, 0), "ab", 0, 0);
        why(Sample.full(24, 0), "yyyyyyyyyyyy", 0, 3);
    }

    /** 4 the user has not so many coins: the price once, and a deposit for each piece. */
    private static void promise14Coins() {
        PieceDeposits x = Feed.book("book 5 1 2 0 0;user u 14;user v 15;user w 16;user x 0;"
                + "piece ab;");
        why(x, "abcdefabcdef", 3, 4);
        why(x, "yyyyyyyyyyyy", 0, 4);
        why(x, "yyyyyyyyyyyy", 1, 0);
        why(x, "yyyyyyyyyyyy", 2, 0);
        PieceDeposits y = Feed.book("book 5 1 2 0 0;user u 1;user v 2;user w 3;piece ab;");
        why(y, "ab", 0, 4);
        why(y, "ab", 1, 0);
        why(y, "abab", 2, 4);
    }

    private static void promise14FirstReason() {
        // 16 words and 24 pieces, and v has no coins.
        String book = "book 1 1 1 0 0;user u 16;user v 0;";
        PieceDeposits all = Feed.book(book + Sample.pieces(24) + Sample.words(16));
        why(all, "y", 1, 2);
        PieceDeposits pieces = Feed.book(book + Sample.pieces(24) + Sample.words(15));
        why(pieces, "y", 1, 3);
        why(pieces, "a", 1, 4);
        why(pieces, "a", 0, 0);
    }

    // ---- promises 15 to 17

    private static void promise15Ways() {
        PieceDeposits x = Feed.book("book 99 0 1 9 0;user u 999;piece a;word u a;word u aa;"
                + "word u aaaaaaaaaaaa;");
        Check.due("one letter", x.ways(0), 1);
        Check.due("one way", x.ways(1), 1);
        Check.due("one way", x.ways(2), 1);
        Feed.put(x, "aa").bring(0);
        Check.due("one letter", x.ways(0), 1);
        Check.due("two ways", x.ways(1), 2);
        Check.due("with 1 and 2", x.ways(2), 233);
        Feed.put(x, "aaaaaa").bring(0);
        Check.due("with 6, too", x.ways(2), 233 + 71 + 1);
        x.tick(10);
        Check.due("of those that are in the book now", x.ways(2), 1);
        Check.due("and of those alone", x.ways(1), 1);
    }

    private static void promise16Fewest() {
        PieceDeposits x = Feed.book("book 99 0 1 9 0;user u 999;piece a;word u a;"
                + "word u aaaaaaaaaaaa;");
        Check.due("one", x.fewest(0), 1);
        Check.due("twelve", x.fewest(1), 12);
        Feed.put(x, "aaaaa").bring(0);
        Check.due("5, 5, 1, 1", x.fewest(1), 4);
        Feed.put(x, "aaaa").bring(0);
        Check.due("4, 4, 4", x.fewest(1), 3);
        Feed.put(x, "aaaaaa").bring(0);
        Check.due("6, 6", x.fewest(1), 2);
        Check.due("one", x.fewest(0), 1);
        x.tick(10);
        Check.due("they are gone", x.fewest(1), 12);
    }

    private static void promise17Saving() {
        PieceDeposits x = Feed.book("book 99 0 9 9 0;user u 999;piece a;word u a;"
                + "word u aaaaaaaaaaaa;");
        Check.due("nothing", x.saving(0), 0);
        Check.due("nothing", x.saving(1), 0);
        Feed.put(x, "aa").bring(0);
        Check.due("nothing", x.saving(0), 0);
        Check.due("6 pieces", x.saving(1), 54);
        Feed.put(x, "aaaaaa").bring(0);
        Check.due("10 pieces", x.saving(1), 90);
        Check.due("as told", x.recut(1), 90);
        Check.due("nothing more", x.saving(1), 0);
    }

    /** A word abcdefghijkl of three known pieces, which a new piece of 6 letters would help. */
    private static PieceDeposits newPieceWouldBeCheaper() {
        PieceDeposits x = Feed.book("book 2 0 3 9 0;user u 99;piece abcd;piece efgh;piece ijkl;"
                + "word u abcdefghijkl;");
        Feed.put(x, "abcdef").bring(0);
        return x;
    }

    /** Into pieces that are in the book now: ghijkl is not, cheap as it is. */
    private static void promise15To18PiecesOfTheBookAlone() {
        PieceDeposits x = newPieceWouldBeCheaper();
        Check.due("a new one is cheaper", Feed.put(x, "abcdefghijkl").quote(4), 1);
        Check.due("ways", x.ways(0), 1);
        Check.due("fewest", x.fewest(0), 3);
        Check.due("saving", x.saving(0), 0);
        best(x, 0, 6, 6, 1);
        Check.due("recut", x.recut(0), 0);
        Check.due("recutAll", x.recutAll(), 0);
        Check.dueText("as before", Feed.cutting(x, 0), "abcd.efgh.ijkl");
        Feed.put(x, "ghijkl").bring(0);
        Check.due("ways", x.ways(0), 2);
        Check.due("fewest", x.fewest(0), 2);
        Check.due("saving", x.saving(0), 3);
        best(x, 0, NONE, NONE, NONE);
        Check.due("recut", x.recut(0), 3);
    }

    // ---- promise 18

    private static void best(PieceDeposits x, int word, int... due) {
        for (int what = 0; what < 3; what++) {
            Check.due("bestPart " + word + " " + what, x.bestPart(word, what), due[what]);
        }
    }

    private static PieceDeposits known(String statements) {
        return Feed.book("book 99 0 1 9 0;user u 999;piece a;piece b;piece c;piece d;piece e;"
                + statements);
    }

    /** NONE if no part makes the sum less: 1 less is enough. */
    private static void promise18LeastGain() {
        best(known("word u a;"), 0, NONE, NONE, NONE);
        best(known("word u ab;"), 0, 0, 2, 1);
        best(known("piece ab;word u ab;"), 0, NONE, NONE, NONE);
        best(known("piece ab;piece bc;word u abc;"), 0, 0, 3, 1);
        best(known("piece abcdea;piece bcdeab;word u abcdeabcdeab;"), 0, NONE, NONE, NONE);
        best(known("piece abcdea;word u abcdeabcdeab;"), 0, 1, 6, 5);
        // Two pieces in place of three: abcdef is used twice for this.
        best(Feed.book("book 99 0 1 9 0;user u 99;piece abcd;piece efab;piece cdef;"
                + "word u abcdefabcdef;"), 0, 0, 6, 1);
    }

    /** Each part of 1 to 6 letters of the word. */
    private static void promise18PartsOf1To6Letters() {
        best(known("word u abcde;"), 0, 0, 5, 4);
        best(known("word u abcdea;"), 0, 0, 6, 5);
        best(known("word u abcdeab;"), 0, 0, 6, 5);
        best(known("word u abcdeabcdeab;"), 0, 0, 5, 8);
        // A part of one letter: with a there is a.bcdefg, with g there is abcdef.g.
        PieceDeposits y = Feed.book("book 99 0 1 9 0;user u 999;piece bcdefg;piece ab;piece cd;"
                + "piece efg;word u abcdefg;");
        best(y, 0, 0, 1, 1);
        PieceDeposits z = Feed.book("book 99 0 1 9 0;user u 999;piece abcdef;piece ab;piece cd;"
                + "piece efg;word u abcdefg;");
        best(z, 0, 6, 1, 1);
    }

    private static void promise18NotInTheBook() {
        PieceDeposits x = known("word u abcd;");
        best(x, 0, 0, 4, 3);
        Feed.put(x, "abcd").bring(0);
        best(x, 0, NONE, NONE, NONE);
        x.tick(10);
        best(x, 0, 0, 4, 3);
        Check.due("the book stays", x.size(1), 5);
    }

    /** The part with the greatest such number: one more is enough for a longer, later one. */
    private static void promise18GreatestNumber() {
        // ab helps three times by 1, cde once by 2.
        best(known("word u abcde;word u ab;word u ab;word u dcab;"), 0, 0, 2, 4);
        // abcde helps by 4, ab by 3; with one word more by 4, too.
        PieceDeposits x = known("word u abcde;word u ab;word u ab;");
        best(x, 0, 0, 5, 4);
        best(x, 1, 0, 2, 3);
        Feed.put(x, "ab").store(0);
        best(x, 0, 0, 2, 4);
        Feed.put(x, "cde").store(0);
        Feed.put(x, "ecde").store(0);
        // cde helps by 6 now.
        best(x, 0, 2, 3, 6);
    }

    /** Of several, the shortest one. */
    private static void promise18ShortestOne() {
        // bc and abc help by 2.
        best(known("word u abc;word u bc;"), 0, 1, 2, 2);
        best(known("word u abc;word u ab;"), 0, 0, 2, 2);
        best(known("word u abc;word u bc;"), 1, 0, 2, 2);
        // A shorter one that begins last.
        best(known("word u abcd;word u cd;word u cd;"), 0, 2, 2, 3);
    }

    /** Of several, the one that begins first. */
    private static void promise18BeginsFirst() {
        best(known("word u abc;word u ab;word u bc;"), 0, 0, 2, 2);
        best(known("word u bca;word u ab;word u bc;word u ca;"), 0, 0, 2, 2);
        best(known("word u eabcd;word u ab;word u cd;word u ab;word u cd;word u cd;word u ab;"),
                0, 1, 2, 4);
        // The same part a second time: its first place is told.
        best(known("word u abcab;"), 0, 0, 5, 4);
        best(known("word u eabdab;word u ab;word u ab;word u ab;"), 0, 1, 2, 5);
    }

    /** The sum over all words, of the least numbers of pieces, not of the cuttings as they are. */
    private static void promise18AllWords() {
        PieceDeposits x = known("word u abcd;word u bcd;word u bc;word u bc;");
        best(x, 0, 1, 2, 4);
        Feed.put(x, "bc").bring(0);
        // The cuttings are as they were; the least numbers are 3, 2, 1, 1.
        best(x, 0, 1, 3, 2);
        Check.due("its cutting stays", x.word(0, 2), 4);
        PieceDeposits y = known("word u cd;word u ab;word u abab;");
        best(y, 0, 0, 2, 1);
        best(y, 1, 0, 2, 3);
        best(y, 2, 0, 2, 3);
    }

    // ---- promises 19 to 22

    private static void promise19Shared() {
        PieceDeposits x = known("word u abcdeabcdeab;word u a;word u ea;word u aaaa;word u bd;");
        Check.due("all five with themselves", x.shared(0, 0), 5);
        Check.due("one with itself", x.shared(1, 1), 1);
        Check.due("one four times with itself", x.shared(3, 3), 1);
        Check.due("one", x.shared(0, 1), 1);
        Check.due("two", x.shared(0, 2), 2);
        Check.due("two", x.shared(2, 0), 2);
        Check.due("one of one and four", x.shared(1, 3), 1);
        Check.due("none", x.shared(1, 4), 0);
        Check.due("none", x.shared(4, 3), 0);
        Feed.put(x, "eabcde").store(0);
        Check.due("of other pieces", x.shared(5, 1), 1);
        Feed.put(x, "eab").bring(0);
        x.recut(5);
        Check.due("letters alone do not count", x.shared(5, 1), 0);
    }

    private static void promise20Favourite() {
        Check.due("the book is empty", new PieceDeposits().favourite(), NONE);
        Check.due("none has uses", Feed.book("book 0 0 1 0 0;piece a;piece b;").favourite(), 0);
        PieceDeposits x = known("word u bcd;");
        Check.due("the least of three", x.favourite(), 1);
        Feed.put(x, "e").store(0);
        Check.due("the least of four", x.favourite(), 1);
        Feed.put(x, "e").store(0);
        Check.due("the last one", x.favourite(), 4);
        Feed.put(x, "b").store(0);
        Check.due("as often", x.favourite(), 1);
        x.undo();
        x.remove(0);
        Check.due("it alone", x.favourite(), 4);
        x.remove(0);
        x.remove(0);
        Check.due("none has uses any more", x.favourite(), 0);
        PieceDeposits y = Feed.book("book 0 0 1 0 0;user u 9;");
        Feed.put(y, "a").bring(0);
        Check.due("one", y.favourite(), 0);
        y.tick(1);
        Check.due("the book is empty again", y.favourite(), NONE);
    }

    /** Deposits that are held counted as coins. */
    private static void promise21Richest() {
        Check.due("without users", new PieceDeposits().richest(), NONE);
        Check.due("a poor one", Feed.book("book 0 0 1 0 0;user u 0;").richest(), 0);
        Check.due("all as poor", Feed.book("book 0 0 1 0 0;user u 0;user v 0;").richest(), 0);
        String[] coins = {"19", "20", "21"};
        int[] due = {1, 1, 2};
        for (int i = 0; i < 3; i++) {
            PieceDeposits x = Feed.book("book 99 0 9 0 0;user u 0;user v 20;user w " + coins[i]
                    + ";piece a;");
            Check.due("w has " + coins[i], x.richest(), due[i]);
            Feed.put(x, "aa").store(1);
            Check.due("deposits count", x.richest(), due[i]);
            x.pay(1, 2, 1);
            Check.due("w has one more", x.richest(), 2);
        }
        PieceDeposits y = Feed.book("book 3 0 9 0 0;user u 20;user v 20;user w 22;piece a;");
        Feed.put(y, "b").store(2);
        Check.due("a price is gone", y.richest(), 0);
        Check.due("the last of four", Feed.book("book 0 0 1 0 0;user a 1;user b 1;user c 1;"
                + "user d 2;").richest(), 3);
    }

    /** (It always is so.) */
    private static void promise22IsWhole() {
        Check.due("a new one", new PieceDeposits().isWhole(), true);
        Check.due("a rich one", Sample.rich().isWhole(), true);
        Check.due("a full one", Sample.full(24, 16).isWhole(), true);
        PieceDeposits x = Sample.rich();
        while (x.undo() > 0) {
            Check.due("undone", x.isWhole(), true);
        }
        x.restoreSnapshot(1);
        Check.due("restored", x.isWhole(), true);
        while (x.size(2) > 0) {
            x.remove(x.size(2) - 1);
            x.tick(5);
            x.recutAll();
            Check.due("removed", x.isWhole(), true);
        }
    }

    // ---- promise 23

    private static void accounts(PieceDeposits x, int... due) {
        for (int what = 0; what < 6; what++) {
            Check.due("account " + what, x.account(what), due[what]);
        }
    }

    /** What is paid while a text is parsed counts. */
    private static void promise23SumsOfAText() {
        accounts(new PieceDeposits(), 0, 0, 0, 0, 0, 0);
        accounts(Feed.book("book 5 1 2 0 50;user u 99;piece ab;"), 0, 0, 0, 0, 0, 0);
        accounts(Feed.book("book 5 1 2 0 50;user u 99;piece ab;word u ab;"), 0, 0, 2, 0, 0, 0);
        accounts(Feed.book("book 5 1 2 0 50;user u 99;piece ab;word u ab;word u yyyyyyyyyyyy;"
                + "word u q;"), 17, 0, 8, 0, 2, 0);
    }

    private static void promise23EachSum() {
        PieceDeposits x = Feed.book("book 5 1 2 0 50;user u 99;user v 99;piece a;piece b;piece c;");
        Feed.put(x, "abc").store(0);
        accounts(x, 0, 0, 6, 0, 0, 0);
        Feed.put(x, "abc").bring(1);
        accounts(x, 8, 0, 6, 0, 1, 0);
        Feed.put(x, "abcz").store(1);
        accounts(x, 14, 0, 10, 0, 2, 0);
        // Of the three deposits for abc two go back; none is paid anew.
        x.recut(0);
        accounts(x, 14, 0, 10, 4, 2, 0);
        x.recut(0);
        x.recutAll();
        accounts(x, 14, 0, 10, 4, 2, 0);
        x.remove(1);
        accounts(x, 14, 0, 10, 8, 2, 0);
        // z was bought for 6: it goes back, and abc, which is used, does not.
        x.tick(1);
        accounts(x, 14, 3, 10, 8, 2, 1);
        x.pay(0, 1, 9);
        accounts(x, 14, 3, 10, 8, 2, 1);
        x.remove(0);
        x.tick(30);
        accounts(x, 14, 7, 10, 10, 2, 2);
        Feed.put(x, "abc").store(0);
        accounts(x, 14, 7, 16, 10, 2, 2);
    }

    /** A sum since parse; a snapshot holds it, and undo takes it back. */
    private static void promise23UndoSnapshotAndParse() {
        PieceDeposits x = Feed.book("book 5 1 2 0 50;user u 99;");
        Feed.put(x, "a").store(0);
        x.saveSnapshot(0);
        x.remove(0);
        x.tick(1);
        accounts(x, 6, 3, 2, 2, 1, 1);
        x.undo();
        accounts(x, 6, 0, 2, 2, 1, 0);
        x.undo();
        accounts(x, 6, 0, 2, 0, 1, 0);
        x.undo();
        accounts(x, 0, 0, 0, 0, 0, 0);
        x.restoreSnapshot(0);
        accounts(x, 6, 0, 2, 0, 1, 0);
        Feed.parse(x, "book 5 1 2 0 50;user u 1;word u a;");
        accounts(x, 6, 0, 2, 0, 1, 0);
        Feed.parse(x, "book 5 1 2 0 50;user u 9;");
        accounts(x, 0, 0, 0, 0, 0, 0);
    }

    // ---- all of them

    /** "what would be; nothing changes but the buffer". */
    private static void nothingChangesButTheBuffer() {
        changesNothing("quote", x -> Feed.put(x, "zzz").quote(0));
        changesNothing("whyNotStore", x -> Feed.put(x, "zzz").whyNotStore(0));
        changesNothing("find", x -> Feed.put(x, "ab").find(1));
        changesNothing("ways", x -> x.ways(0));
        changesNothing("fewest", x -> x.fewest(0));
        changesNothing("saving", x -> x.saving(0));
        changesNothing("bestPart", x -> x.bestPart(1, 0));
        changesNothing("shared", x -> x.shared(0, 1));
        changesNothing("favourite", x -> x.favourite());
        changesNothing("richest", x -> x.richest());
        changesNothing("isWhole", x -> x.isWhole() ? 1 : 0);
        changesNothing("account", x -> x.account(0));
        changesNothing("size", x -> x.size(11));
        changesNothing("errorPosition", x -> x.errorPosition());
        changesNothing("user", x -> x.user(0, 4));
        changesNothing("piece", x -> x.piece(0, 4));
        changesNothing("pieceLetter", x -> x.pieceLetter(0, 4));
        changesNothing("word", x -> x.word(0, 3));
        changesNothing("wordLetter", x -> x.wordLetter(0, 3));
        changesNothing("part", x -> x.part(0, 3));
    }

    private static void changesNothing(String what, Refusal.Use use) {
        PieceDeposits x = Sample.rich();
        use.of(x);
        Check.dueText(what + " changes nothing", Refusal.allOf(x), Refusal.allOf(Sample.rich()));
    }
}
