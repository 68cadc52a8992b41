/** Promises 13 to 23: what would be. */
final class WouldBeTest {
    private static final int NONE = PieceDeposits.NONE;
    private static final int LEAST = Integer.MIN_VALUE;
    private static final int MOST = Integer.MAX_VALUE;

    private WouldBeTest() {
    }

    static void run() {
        promise13Quote();
        promise13CheapestCutting();
        promise14WhyNotStore();
        promise15Ways();
        promise16Fewest();
        promise17Saving();
        promise18BestPart();
        promise18Ties();
        promise19Shared();
        promise20Favourite();
        promise21Richest();
        promise22IsWhole();
        promise23Account();
        nothingChanges();
    }

    private static void quote(PieceDeposits x, String word, int... due) {
        for (int what = 0; what < due.length; what++) {
            Check.due("quote " + what + " of " + word, Feed.put(x, word).quote(what), due[what]);
        }
    }

    private static void promise13Quote() {
        PieceDeposits x = Feed.book("book 10 2 3 1 50;user a 5;piece ab;piece c;");
        quote(x, "ab", 3, 3, 0, 1, 0);
        quote(x, "abc", 6, 6, 0, 2, 0);
        quote(x, "xyz", 19, 3, 16, 1, 1);
        quote(x, "abxyz", 22, 6, 16, 2, 1);
        // The cutting pays for each occurrence, but the user pays a price once.
        quote(x, "qqqqqqqqqqqq", 28, 6, 22, 2, 1);
        quote(x, "defghiuvwxyz", 50, 6, 44, 2, 2);
        quote(x, "abcdefuvwxyz", 49, 9, 40, 3, 2);
        quote(x, "a b", NONE, NONE, NONE, NONE, NONE);
        Check.due("no word", x.quote(0), NONE);
        Feed.put(x, "abc");
        Check.badArgument("quote(5)", () -> x.quote(5));
        Check.due("the buffer is empty", x.quote(3), NONE);
        Check.badArgument("quote(-1)", () -> x.quote(-1));
        Check.badArgument("quote(least)", () -> x.quote(LEAST));
        Check.badArgument("quote(most)", () -> x.quote(MOST));
        Feed.put(x, "abc").quote(0);
        Check.due("the buffer is empty", Feed.append(x, " ".repeat(20)), 20);
    }

    private static void cutting(String book, String word, String due) {
        PieceDeposits x = Feed.book(book + "user a 999;word a " + word + ";");
        Check.dueText("cutting of " + word + " with " + book, Feed.cutting(x, 0), due);
    }

    private static void promise13CheapestCutting() {
        cutting("book 0 0 1 0 0;", "abcdef", "abcdef");
        cutting("book 0 0 1 0 0;", "abcdefg", "abcdef.g");
        cutting("book 0 0 1 0 0;", "abcdefghijkl", "abcdef.ghijkl");
        cutting("book 9 9 9 0 0;", "abcdefghijkl", "abcdef.ghijkl");
        // Of the same cost, the fewest pieces.
        cutting("book 1 0 1 0 0;piece a;piece b;", "ab", "ab");
        cutting("book 2 0 1 0 0;piece a;piece b;", "ab", "a.b");
        cutting("book 0 1 2 0 0;piece abcdef;piece gh;piece ij;piece k;piece abc;piece fghijk;",
                "abcdefghijk", "abc.de.fghijk");
        // Of the same number of pieces, the longest first piece, then the longest second one.
        cutting("book 9 0 1 0 0;piece a;piece ab;piece bc;piece c;", "abc", "ab.c");
        cutting("book 9 0 1 0 0;piece a;piece ab;piece bc;piece c;", "abcabc", "ab.c.ab.c");
        cutting("book 9 0 1 0 0;piece x;piece a;piece ab;piece bc;piece c;", "xabc", "x.ab.c");
        cutting("book 9 0 1 0 0;piece abc;piece def;piece ab;piece cde;piece f;piece d;piece ef;",
                "abcdef", "abc.def");
        cutting("book 50 0 1 0 0;piece a;piece ab;piece bcd;piece cd;piece d;piece bc;", "abcd",
                "ab.cd");
        // The number of pieces counts before the first piece, the first piece before the second.
        cutting("book 99 0 1 0 0;piece abc;piece ab;piece cdef;piece d;piece ef;piece g;",
                "abcdefg", "ab.cdef.g");
        cutting("book 99 0 1 0 0;piece abc;piece ab;piece cdef;piece d;piece efg;piece g;",
                "abcdefg", "abc.d.efg");
        // In the cost, a new piece is charged each time that it occurs.
        cutting("book 1 2 1 0 0;piece b;", "xbx", "xbx");
        cutting("book 5 1 1 0 0;piece b;piece bb;", "bbbxbb", "bb.bx.bb");
    }

    private static void why(PieceDeposits x, String word, int user, int due) {
        Check.due("why not " + word, Feed.put(x, word).whyNotStore(user), due);
    }

    private static String words(int count) {
        return "word a z;".repeat(count);
    }

    private static void promise14WhyNotStore() {
        PieceDeposits x = Feed.book("book 10 2 3 1 50;user a 19;user b 18;piece ab;");
        why(x, "xyz", 0, 0);
        why(x, "xyz", 1, 4);
        why(x, "", 0, 1);
        why(x, "Xyz", 1, 1);
        why(x, "abcdefghijklm", 0, 1);
        Feed.put(x, "ab");
        Check.outOfBounds("whyNotStore(2)", () -> x.whyNotStore(2));
        Check.due("the buffer is empty", x.whyNotStore(0), 1);
        Check.outOfBounds("whyNotStore(-1)", () -> x.whyNotStore(-1));
        Check.outOfBounds("whyNotStore(most)", () -> x.whyNotStore(MOST));
        String many = "piece a;piece b;piece c;piece d;piece e;piece f;piece g;piece h;piece i;"
                + "piece j;piece k;piece l;piece m;piece n;piece o;piece p;piece q;piece r;"
                + "piece s;piece t;piece u;piece v;piece z;";
        PieceDeposits y = Feed.book("book 10 2 3 1 50;user a 99;" + many + words(15));
        why(y, "x", 0, 0);
        why(y, "xyx", 0, 0);
        why(y, "yyyyyyxxxxxx", 0, 3);
        why(y, "ab", 0, 0);
        Feed.put(y, "z").store(0);
        why(y, "yyyyyyxxxxxx", 0, 2);
        why(y, "?", 0, 1);
        PieceDeposits z = Feed.book("book 10 2 3 1 50;user a 0;" + many);
        why(z, "yyyyyyxxxxxx", 0, 3);
        why(z, "yyyyyy", 0, 4);
    }

    private static void promise15Ways() {
        PieceDeposits x = Feed.book("book 0 0 1 0 0;user a 99;piece a;piece aa;piece aaa;"
                + "word a aaaa;word a aaaaaaaaaaaa;word a xyz;");
        // Storing aaaa and the 12 letters brings the pieces of 4 and 6 letters.
        Check.due("pieces", x.size(1), 6);
        Check.due("all cuttings of 4", x.ways(0), 8);
        Check.due("one way", x.ways(2), 1);
        Feed.put(x, "aaaaa").bring(0);
        int[] ways = new int[13];
        ways[0] = 1;
        for (int n = 1; n <= 12; n++) {
            for (int first = 1; first <= Math.min(6, n); first++) {
                ways[n] += ways[n - first];
            }
        }
        Check.due("all cuttings of 12", x.ways(1), ways[12]);
        Check.outOfBounds("ways(3)", () -> x.ways(3));
        Check.outOfBounds("ways(-1)", () -> x.ways(-1));
        Check.outOfBounds("ways(most)", () -> x.ways(MOST));
    }

    private static void promise16Fewest() {
        PieceDeposits x = Feed.book("book 99 0 2 9 0;user a 999;piece a;piece b;piece c;"
                + "word a abc;word a cba;word a abcabcabcabc;");
        Check.due("by letters", x.fewest(0), 3);
        Feed.put(x, "bc").bring(0);
        Check.due("with bc", x.fewest(0), 2);
        Check.due("of another word", x.fewest(1), 3);
        Check.due("its cutting stays", x.word(0, 2), 3);
        Feed.put(x, "abc").bring(0);
        Check.due("with abc", x.fewest(0), 1);
        Check.due("of 12 letters", x.fewest(2), 4);
        Check.outOfBounds("fewest(3)", () -> x.fewest(3));
        Check.outOfBounds("fewest(-1)", () -> x.fewest(-1));
    }

    private static void promise17Saving() {
        PieceDeposits x = Feed.book("book 9 0 2 9 0;user a 99;piece a;piece b;piece c;"
                + "word a abc;word a cba;");
        Check.due("nothing", x.saving(0), 0);
        Feed.put(x, "bc").bring(0);
        Check.due("one piece less", x.saving(0), 2);
        Feed.put(x, "abc").bring(0);
        Check.due("two pieces less", x.saving(0), 4);
        Check.due("nothing for the other", x.saving(1), 0);
        x.recut(0);
        Check.due("nothing any more", x.saving(0), 0);
        Check.outOfBounds("saving(2)", () -> x.saving(2));
        Check.outOfBounds("saving(-1)", () -> x.saving(-1));
    }

    private static void best(PieceDeposits x, int word, int... due) {
        for (int what = 0; what < 3; what++) {
            Check.due("bestPart " + word + " " + what, x.bestPart(word, what), due[what]);
        }
    }

    private static void promise18BestPart() {
        String letters = "book 99 0 1 9 0;user u 999;piece a;piece b;piece c;piece d;";
        PieceDeposits x = Feed.book(letters + "word u abcd;");
        best(x, 0, 0, 4, 3);
        PieceDeposits y = Feed.book(letters + "word u abab;word u abc;word u abd;word u abdc;");
        // ab makes the sum less by 2 + 1 + 1 + 1, abd by 2 + 2, abab by 3.
        best(y, 0, 0, 2, 5);
        best(y, 3, 0, 2, 5);
        PieceDeposits z = Feed.book(letters + "word u aaaaaaaa;word u dcba;");
        best(z, 0, 0, 4, 6);
        best(z, 1, 0, 4, 3);
        Feed.put(x, "abcd").bring(0);
        best(x, 0, NONE, NONE, NONE);
        x.recutAll();
        best(x, 0, NONE, NONE, NONE);
        Check.due("nothing comes into the book", x.size(1), 5);
        Check.outOfBounds("bestPart(1, 0)", () -> x.bestPart(1, 0));
        Check.outOfBounds("bestPart(-1, 0)", () -> x.bestPart(-1, 0));
        Check.outOfBounds("the word is checked first", () -> x.bestPart(MOST, 3));
        Check.badArgument("bestPart(0, 3)", () -> x.bestPart(0, 3));
        Check.badArgument("bestPart(0, -1)", () -> x.bestPart(0, -1));
    }

    private static void promise18Ties() {
        String letters = "book 99 0 1 9 0;user u 999;piece a;piece b;piece c;piece d;";
        // abcd and cdab help as much: the one that begins first is taken.
        PieceDeposits x = Feed.book(letters + "word u abcdabcdcdab;");
        Check.due("word", x.word(0, 2), 12);
        best(x, 0, 0, 4, 6);
        // cd and abcd help as much: the shortest one is taken.
        PieceDeposits y = Feed.book(letters + "word u abcd;word u cd;word u cd;");
        best(y, 0, 2, 2, 3);
        best(y, 1, 0, 2, 3);
        PieceDeposits z = Feed.book(letters + "piece ab;word u cab;");
        Check.due("a word of two pieces", z.word(0, 2), 2);
        best(z, 0, 0, 3, 1);
        // The sum is of the least numbers, not of the cuttings as they are.
        PieceDeposits w = Feed.book(letters + "word u abcd;piece abc;");
        Check.due("four pieces now", w.word(0, 2), 4);
        best(w, 0, 0, 4, 1);
        // Parts of one letter and of six.
        PieceDeposits t = Feed.book("book 99 0 1 0 0;user u 99;piece bcdefg;piece ab;piece cd;"
                + "piece efg;word u abcdefg;");
        best(t, 0, 0, 1, 1);
        best(Feed.book(letters + "word u abcdab;"), 0, 0, 6, 5);
        best(Feed.book(letters + "word u abcdabd;"), 0, 0, 6, 5);
        // A word that was removed does not count.
        y.remove(2);
        best(y, 0, 0, 4, 3);
        // Also with 24 pieces in the book a part would help.
        PieceDeposits v = Feed.book(letters + "piece e;piece f;piece g;piece h;piece i;piece j;"
                + "piece k;piece l;piece m;piece n;piece o;piece p;piece q;piece r;piece s;"
                + "piece t;piece u;piece v;piece w;piece x;word u xx;");
        Check.due("pieces", v.size(1), 24);
        best(v, 0, 0, 2, 1);
    }

    private static void promise19Shared() {
        PieceDeposits x = Feed.book("book 9 0 1 0 0;user a 99;user b 99;piece ab;piece c;piece d;"
                + "word a abcab;word b cdc;word a ab;word b dcab;");
        Check.due("c alone", x.shared(0, 1), 1);
        Check.due("the other way round", x.shared(1, 0), 1);
        Check.due("ab alone", x.shared(0, 2), 1);
        Check.due("none", x.shared(1, 2), 0);
        Check.due("two", x.shared(0, 3), 2);
        Check.due("with itself", x.shared(0, 0), 2);
        Check.due("with itself", x.shared(3, 3), 3);
        Check.due("with itself", x.shared(2, 2), 1);
        Check.outOfBounds("shared(4, 0)", () -> x.shared(4, 0));
        Check.outOfBounds("shared(0, 4)", () -> x.shared(0, 4));
        Check.outOfBounds("shared(-1, 0)", () -> x.shared(-1, 0));
        Check.outOfBounds("shared(0, -1)", () -> x.shared(0, -1));
    }

    private static void promise20Favourite() {
        Check.due("of an empty book", new PieceDeposits().favourite(), NONE);
        PieceDeposits x = Feed.book("book 9 0 1 0 0;user a 99;piece a;piece b;piece c;");
        Check.due("none has uses", x.favourite(), 0);
        Feed.put(x, "c").store(0);
        Check.due("c", x.favourite(), 2);
        Feed.put(x, "b").store(0);
        Check.due("b as often", x.favourite(), 1);
        Feed.put(x, "cc").store(0);
        Check.due("c thrice", x.favourite(), 2);
        x.remove(0);
        x.remove(1);
        Check.due("b once", x.favourite(), 1);
    }

    private static void promise21Richest() {
        Check.due("without users", new PieceDeposits().richest(), NONE);
        PieceDeposits x = Feed.book("book 9 0 4 0 0;user a 20;user b 20;user c 19;piece q;");
        Check.due("the least number", x.richest(), 0);
        x.pay(0, 1, 1);
        Check.due("b", x.richest(), 1);
        Feed.put(x, "qq").store(1);
        Check.due("deposits count as coins", x.richest(), 1);
        Feed.put(x, "x").store(1);
        Check.due("prices do not", x.richest(), 0);
        Check.due("poor users", Feed.book("book 0 0 1 0 0;user a 0;user b 0;").richest(), 0);
    }

    private static void promise22IsWhole() {
        PieceDeposits x = Feed.book("book 3 1 2 1 70;user a 300;user b 300;piece ab;piece c;"
                + "word a abc;word b xyzab;");
        Check.due("whole", x.isWhole(), true);
        Feed.put(x, "abcxyz").store(1);
        Feed.put(x, "abc").bring(0);
        x.remove(1);
        Check.due("whole after changes", x.isWhole(), true);
        x.recutAll();
        x.tick(9);
        Check.due("whole after ticks", x.isWhole(), true);
        x.undo();
        x.undo();
        Check.due("whole after undo", x.isWhole(), true);
        Check.due("a new one", new PieceDeposits().isWhole(), true);
    }

    private static void accounts(PieceDeposits x, int... due) {
        for (int what = 0; what < due.length; what++) {
            Check.due("account " + what, x.account(what), due[what]);
        }
    }

    private static void promise23Account() {
        PieceDeposits x = Feed.book("book 10 2 3 0 50;user a 200;piece ab;piece c;word a abc;"
                + "word a xyz;");
        accounts(x, 16, 0, 9, 0, 1, 0);
        Feed.put(x, "xyzc").store(0);
        accounts(x, 16, 0, 15, 0, 1, 0);
        Feed.put(x, "abc").bring(0);
        accounts(x, 32, 0, 15, 0, 2, 0);
        x.recut(0);
        accounts(x, 32, 0, 15, 3, 2, 0);
        x.remove(0);
        accounts(x, 32, 0, 15, 6, 2, 0);
        x.tick(1);
        accounts(x, 32, 8, 15, 6, 2, 1);
        x.undo();
        accounts(x, 32, 0, 15, 6, 2, 0);
        x.pay(0, 0, 9);
        accounts(x, 32, 0, 15, 6, 2, 0);
        Check.badArgument("account(6)", () -> x.account(6));
        Check.badArgument("account(-1)", () -> x.account(-1));
        Check.badArgument("account(most)", () -> x.account(MOST));
        // A piece for the price 0 comes for a price, too.
        accounts(Feed.book("book 0 0 1 0 0;user a 9;piece b;word a b;word a c;"),
                0, 0, 2, 0, 1, 0);
        Feed.parse(x, "book 0 0 1 0 0;");
        accounts(x, 0, 0, 0, 0, 0, 0);
    }

    private static void nothingChanges() {
        PieceDeposits x = Feed.book("book 3 1 2 1 70;user a 300;user b 300;piece ab;piece c;"
                + "word a abc;word b xyzab;");
        Feed.put(x, "abc").bring(0);
        String before = Feed.state(x);
        Feed.put(x, "uvw").quote(0);
        Feed.put(x, "uvw").whyNotStore(0);
        Feed.put(x, "ab").find(1);
        x.ways(0);
        x.fewest(0);
        x.saving(0);
        x.bestPart(0, 0);
        x.bestPart(1, 2);
        x.shared(0, 1);
        Check.dueText("nothing changes", Feed.state(x), before);
        Check.due("but the buffer", Feed.append(x, " ".repeat(20)), 20);
    }
}
