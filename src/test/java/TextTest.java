/** Promises 1 to 6: a new object, the input buffer, texts, counts and finding. */
final class TextTest {
    private static final int NONE = PieceDeposits.NONE;

    private TextTest() {
    }

    static void run() {
        promise1NewObject();
        promise2Append();
        promise3ParseSuccess();
        promise3ParseClearsUndoAndSlots();
        promise3ParseErrorsChangeNothing();
        promise3NothingIsLeft();
        promise3LengthOutOfRange();
        promise3And4Tokens();
        promise3And4Header();
        promise3And4Users();
        promise3And4Pieces();
        promise3And4Words();
        promise4ErrorPosition();
        promise5Size();
        promise6Find();
        wordInTheBuffer();
    }

    private static void promise1NewObject() {
        Check.due("NONE", NONE, -1);
        PieceDeposits x = new PieceDeposits();
        int[] due = {0, 0, 0, 0, 0, 0, 0, 0, 1, 0, 0, 0};
        for (int what = 0; what < due.length; what++) {
            Check.due("new size " + what, x.size(what), due[what]);
        }
        for (int what = 0; what < 6; what++) {
            Check.due("new account " + what, x.account(what), 0);
        }
        Check.due("new undo", x.undo(), NONE);
        Check.due("new buffer is empty", Feed.append(x, "book 0 0 1 0 0;     "), 20);
        Check.dueText("new is as parsed", Feed.state(new PieceDeposits()),
                Feed.state(Feed.book("book 0 0 1 0 0;")));
        Check.badState("new slot 0", () -> new PieceDeposits().restoreSnapshot(0));
        Check.badState("new slot 1", () -> new PieceDeposits().restoreSnapshot(1));
    }

    private static void promise2Append() {
        PieceDeposits x = new PieceDeposits();
        for (int i = 1; i <= 30; i++) {
            Check.due("append " + i, Feed.append(x, "                    "), 20 * i);
        }
        Check.due("append of too much", Feed.append(x, "book 0 0 1 0 0;user "), NONE);
        Check.due("a text of 600 spaces", x.parse(600), 1);
        Check.due("ends too early", x.errorPosition(), 600);
        // The most significant byte comes first: "book 9 8 7 6 5;user " and "a 4321;" follow.
        Check.due("append", x.append(0x626f6f6b, 0x20392038, 0x20372036, 0x20353b75, 0x73657220),
                20);
        Check.due("append", x.append(0x61203433, 0x32313b20, 0x20202020, 0x20202020, 0x20202020),
                40);
        Check.due("parse", x.parse(40), 0);
        Check.due("coins", x.user(0, 0), 4321);
        Check.due("price", x.size(6), 9);
        Check.due("refund", x.size(10), 5);
        Check.due("bytes above 127", x.append(-1, -1, -1, -1, -1), 20);
        Check.due("are invalid", x.parse(20), 1);
        Check.due("at once", x.errorPosition(), 0);
    }

    private static void promise3ParseSuccess() {
        PieceDeposits x = Feed.book("book 10 2 3 1 50;user ann 100;user bob 50;piece ab;piece c;"
                + "word ann abc;word bob xyz;");
        Check.due("users", x.size(0), 2);
        Check.due("pieces", x.size(1), 3);
        Check.due("words", x.size(2), 2);
        Check.due("chest", x.size(4), 16);
        Check.due("fund", x.size(5), 9);
        Check.due("ann", x.user(0, 0), 94);
        Check.due("bob", x.user(1, 0), 31);
        Check.due("the buffer is empty", Feed.append(x, "a                   "), 20);
        Check.due("only the first bytes count", Feed.parse(x, ""), 1);
        Check.due("of an empty text", x.errorPosition(), 0);
        Feed.put(x, "book 1 1 1 1 1; user a 7; # not read");
        Check.due("a part of the buffer", x.parse(25), 0);
        Check.due("was parsed", x.user(0, 0), 7);
        Check.due("the whole buffer is empty", Feed.append(x, "a                   "), 20);
        Feed.book("book 0 0 1 0 0;");
        Feed.book("book 99 9 9 20 100;");
        Feed.book("\n book\n00 0\n0001 0 0 ; \n");
    }

    private static void promise3ParseClearsUndoAndSlots() {
        PieceDeposits x = Feed.book("book 0 0 1 0 0;user a 9;");
        x.tick(5);
        x.saveSnapshot(0);
        x.saveSnapshot(1);
        Check.due("failed parse", Feed.parse(x, "book"), 1);
        Check.due("keeps undo", x.size(11), 1);
        Check.due("keeps slot 0", x.restoreSnapshot(0), 0);
        x.tick(1);
        Check.due("parse", Feed.parse(x, "book 0 0 1 0 0;user b 8;"), 0);
        Check.due("clears undo", x.size(11), 0);
        Check.due("time", x.size(3), 0);
        Check.due("undo", x.undo(), NONE);
        Check.badState("empties slot 0", () -> x.restoreSnapshot(0));
        Check.badState("empties slot 1", () -> x.restoreSnapshot(1));
        Check.due("slot 0 was empty", x.saveSnapshot(0), false);
        Check.due("slot 1 was empty", x.saveSnapshot(1), false);
    }

    private static void promise3ParseErrorsChangeNothing() {
        PieceDeposits x = Feed.book("book 1 1 2 3 4;user a 90;piece q;word a abc;");
        x.tick(2);
        String before = Feed.state(x).replace(" -1 true", "");
        Check.due("parse", Feed.parse(x, "book 9 9 9 9 9;user z 999;piece r;word z rr;user z 1;"),
                2);
        Check.dueText("nothing changes", Feed.state(x).replace(" 49 true", ""), before);
        Check.due("but the buffer is empty", Feed.append(x, "a                   "), 20);
    }

    /** A second text on the same object finds nothing of the first one. */
    private static void promise3NothingIsLeft() {
        PieceDeposits x = Feed.book("book 9 1 2 3 4;user abcdefghijkl 90;piece q;"
                + "word abcdefghijkl qr;");
        x.tick(9);
        Check.due("a second text", Feed.parse(x, "book 1 0 1 0 0;user b 5;word b qr;"), 0);
        Check.dueText("its book", Feed.state(x),
                Feed.state(Feed.book("book 1 0 1 0 0;user b 5;word b qr;")));
        Check.due("a third text", Feed.parse(x, "book 0 0 1 0 0;"), 0);
        Check.dueText("its book", Feed.state(x), Feed.state(new PieceDeposits()));
        Feed.parse(x, "book 0 0 1 0 0;user abcdefghijkl 99;");
        Check.due("a shorter text", Feed.parse(x, "book 0 0 1 0 0;user ab"), 1);
        Check.due("ends there", x.errorPosition(), 22);
        Feed.put(x, "book 0 0 1 0 0;user ab 99;");
        Check.due("a part of the buffer", x.parse(24), 1);
        Check.due("ends there", x.errorPosition(), 24);
    }

    private static void promise3LengthOutOfRange() {
        PieceDeposits x = Feed.put(new PieceDeposits(), "book 0 0 1 0 0;user ");
        Check.badArgument("parse(-1)", () -> x.parse(-1));
        Check.badArgument("parse(21)", () -> x.parse(21));
        Check.badArgument("parse(least)", () -> x.parse(Integer.MIN_VALUE));
        Check.badArgument("parse(most)", () -> x.parse(Integer.MAX_VALUE));
        Check.due("no position yet", x.errorPosition(), NONE);
        Check.due("the buffer stays", Feed.append(x, "a 1;                "), 40);
        Check.due("parse", x.parse(40), 0);
        Check.due("users", x.size(0), 1);
        Check.badArgument("parse(1) of an empty buffer", () -> x.parse(1));
        Check.due("parse(0)", x.parse(0), 1);
    }

    private static void error(String text, int code, int position) {
        PieceDeposits x = new PieceDeposits();
        Check.due("parse of " + text, Feed.parse(x, text), code);
        Check.due("position in " + text, x.errorPosition(), position);
    }

    private static void promise3And4Tokens() {
        error("book 0 0 1 0 0;piece abcdefghijkl;", 3, 21);
        error("book 0 0 1 0 0;piece abcdefghijklm;", 1, 21);
        error("book 0 0 1 0 0;user abcdefghijklm 1;", 1, 20);
        error("book 00000 0 1 0 0;", 1, 5);
        error("book 0000 0 1 0 0;user a 10000;", 1, 25);
        error("book 0 0 1 0 0;user A 1;", 1, 20);
        error("book 0 0 1 0 0;\tuser a 1;", 1, 15);
        error("book 0 0 1 0 0;user a -1;", 1, 22);
        error("book 0 0 1 0 0;user a\r 1;", 1, 21);
        error("book 0 0 1 0 0:", 1, 14);
        error("book 0 0 1 0 0;user \u00e9 1;", 1, 20);
        error("book 0 0 1 0 0;user `1;", 1, 20);
        error("book 0 0 1 0 0;user {1;", 1, 20);
        error("book 0 0 1 0 0;user a /;", 1, 22);
        Check.due("runs need no space", Feed.parse(new PieceDeposits(),
                "book0 0 1 0 0;user a1;piece b;word a b;"), 0);
        Check.due("a name of 12 letters", Feed.parse(new PieceDeposits(),
                "book 0 0 1 0 0;user abcdefghijkl 9999;"), 0);
        Check.due("keywords are words", Feed.parse(new PieceDeposits(),
                "book 0 0 1 0 0;user user 9;user book 9;user word 9;piece piece;word user word;"),
                0);
    }

    private static void promise3And4Header() {
        error("", 1, 0);
        error("   ", 1, 3);
        error("book", 1, 4);
        error("boo 0 0 1 0 0;", 1, 0);
        error("look 0 0 1 0 0;", 1, 0);
        error("book 0 0 1 0 0;tser a 1;", 1, 15);
        error("book 0 0 1 0 0;niece a;", 1, 15);
        error("book 0 0 1 0 0;lord a b;", 1, 15);
        error("book 0 0 1 0 0;pieces a;", 1, 15);
        error("book 0 0 1 0 0;words a b;", 1, 15);
        error(" books 0 0 1 0 0;", 1, 1);
        error("user a 1;", 1, 0);
        error("book ; 0 0 1 0 0;", 1, 5);
        error("book a 0 1 0 0;", 1, 5);
        error("book 0 0 1 0;", 1, 12);
        error("book 0 0 1 0 0 0;", 1, 15);
        error("book 0 0 1 0 0", 1, 14);
        error("book 0 0 1 0 0 ", 1, 15);
        error("book 100 0 1 0 0;", 3, 5);
        error("book 0 10 1 0 0;", 3, 7);
        error("book 0 0 0 0 0;", 3, 9);
        error("book 0 0 10 0 0;", 3, 9);
        error("book 0 0 1 21 0;", 3, 11);
        error("book 0 0 1 0 101;", 3, 13);
        error("book 0 0 1 0 9999;", 3, 13);
        error("book 100 0 0 0 0", 3, 5);
        error("book 0 0 1 0 0;;", 1, 15);
        error("book 0 0 1 0 0;user", 1, 19);
        error("book 0 0 1 0 0;7 a;", 1, 15);
        error("book 0 0 1 0 0;book 0 0 1 0 0;", 1, 15);
        error("book 0 0 1 0 0;users a 1;", 1, 15);
    }

    private static void promise3And4Users() {
        String book = "book 0 0 1 0 0;user a 1;";
        error(book + "user a 1;", 2, 29);
        error(book + "user 5 1;", 1, 29);
        error(book + "user ;", 1, 29);
        error(book + "user b;", 1, 30);
        error(book + "user b c;", 1, 31);
        error(book + "user b 1", 1, 32);
        error(book + "user b 1 user", 1, 33);
        String four = book + "user b 1;user c 1;user d 1;";
        error(four + "user a 1;", 5, 51);
        error(four + "user", 5, 51);
        error(four + "users", 1, 51);
        Check.due("four users", Feed.parse(new PieceDeposits(), four), 0);
        PieceDeposits x = Feed.book("book 0 0 1 0 0;user ab 1;user a 2;user abc 3;");
        Check.due("names that begin alike", x.size(0), 3);
    }

    private static String manyPieces(int count) {
        StringBuilder text = new StringBuilder();
        for (int i = 0; i < count; i++) {
            text.append("piece ").append((char) ('a' + i)).append(';');
        }
        return text.toString();
    }

    private static void promise3And4Pieces() {
        String book = "book 0 0 1 0 0;";
        error(book + "piece ab;piece ab;", 2, 30);
        error(book + "piece abcdefg;", 3, 21);
        error(book + "piece 1;", 1, 21);
        error(book + "piece;", 1, 20);
        error(book + "piece ab ab;", 1, 24);
        error(book + "user a 9;word a xy;piece xy;", 2, 40);
        Check.due("pieces of 1 and 6 letters", Feed.parse(new PieceDeposits(),
                book + "piece a;piece aaaaaa;piece aa;"), 0);
        Check.due("24 pieces", Feed.parse(new PieceDeposits(), book + manyPieces(24)), 0);
        error(book + manyPieces(24) + "piece a;", 5, 15 + 24 * 8);
        error(book + manyPieces(24) + "piece yyyyyyyy;", 5, 15 + 24 * 8);
        error(book + "user a 9;word a yy;" + manyPieces(23) + "piece z;", 5, 34 + 23 * 8);
    }

    private static void promise3And4Words() {
        String book = "book 5 0 1 0 0;user a 20;";
        error(book + "word b c;", 4, 30);
        error(book + "word 1 c;", 1, 30);
        error(book + "word a;", 1, 31);
        error(book + "word a 1;", 1, 32);
        error(book + "word a c c;", 1, 34);
        error(book + "word a c", 1, 33);
        error("book 0 0 1 0 0;word a c;user a 1;", 4, 20);
        error("book 5 0 1 0 0;user a 5;word a c;", 6, 31);
        Check.due("6 are enough", Feed.parse(new PieceDeposits(),
                "book 5 0 1 0 0;user a 6;word a c;"), 0);
        error("book 5 0 1 0 0;user a 11;word a c;word a d;", 6, 41);
        error("book 5 0 1 0 0;user a 5;word a c#", 6, 31);
        String full = "book 5 0 1 0 0;user a 99;" + manyPieces(24);
        error(full + "word a y;", 6, 25 + 24 * 8 + 7);
        Check.due("a word of known pieces", Feed.parse(new PieceDeposits(), full + "word a xw;"),
                0);
        StringBuilder words = new StringBuilder("book 0 0 1 0 0;user a 99;");
        for (int i = 0; i < 16; i++) {
            words.append("word a b;");
        }
        Check.due("16 words", Feed.parse(new PieceDeposits(), words.toString()), 0);
        error(words + "word b", 5, 25 + 16 * 9);
        PieceDeposits x = Feed.book(
                "book 5 0 1 0 0;user a 99;word a xy;piece x;piece y;word a yx;");
        Check.dueText("the book of that point counts", Feed.cutting(x, 0), "xy");
        Check.dueText("the book of that point counts", Feed.cutting(x, 1), "y.x");
    }

    private static void promise4ErrorPosition() {
        PieceDeposits x = new PieceDeposits();
        Check.due("none before parse", x.errorPosition(), NONE);
        Feed.parse(x, "book 0 0 0");
        Check.due("of the error", x.errorPosition(), 9);
        Check.badArgument("parse", () -> x.parse(1));
        Check.due("an exception keeps it", x.errorPosition(), 9);
        Feed.parse(x, "book 0 0 1 0 0; \n");
        Check.due("none after a success", x.errorPosition(), NONE);
        Feed.parse(x, "book 0 0 1 0 0;word \n");
        Check.due("a text that ends too early", x.errorPosition(), 21);
        x.tick(1);
        x.undo();
        Check.due("undo keeps it", x.errorPosition(), 21);
        Check.due("telling changes nothing", x.errorPosition(), 21);
    }

    private static void promise5Size() {
        PieceDeposits x = Feed.book("book 11 2 3 4 55;user a 500;user b 60;user c 0;piece q;"
                + "word a qq;word b z;");
        x.tick(7);
        x.tick(2);
        int[] due = {3, 2, 2, 9, 13, 9, 11, 2, 3, 4, 55, 2};
        for (int what = 0; what < due.length; what++) {
            Check.due("size " + what, x.size(what), due[what]);
        }
        Check.badArgument("size(-1)", () -> x.size(-1));
        Check.badArgument("size(12)", () -> x.size(12));
        Check.badArgument("size(least)", () -> x.size(Integer.MIN_VALUE));
        Check.badArgument("size(most)", () -> x.size(Integer.MAX_VALUE));
    }

    private static int find(PieceDeposits x, String word, int kind) {
        return Feed.put(x, word).find(kind);
    }

    private static void promise6Find() {
        PieceDeposits x = Feed.book("book 0 0 1 0 0;user ann 50;user abcdefghijkl 50;piece ab;"
                + "piece abcdef;word ann abab;word ann ab;word ann ab;word ann abababababab;");
        Check.due("a user", find(x, "ann", 0), 0);
        Check.due("a user of 12 letters", find(x, "abcdefghijkl", 0), 1);
        Check.due("no user", find(x, "an", 0), NONE);
        Check.due("no user", find(x, "annn", 0), NONE);
        Check.due("a piece", find(x, "abcdef", 1), 1);
        Check.due("no piece", find(x, "abcde", 1), NONE);
        Check.due("no piece", find(x, "abcdefa", 1), NONE);
        Check.due("a word", find(x, "abab", 2), 0);
        Check.due("the first of several", find(x, "ab", 2), 1);
        Check.due("a word of 12 letters", find(x, "abababababab", 2), 3);
        Check.due("no word", find(x, "abababababa", 2), NONE);
        Check.due("no word in the buffer", x.find(2), NONE);
        Check.due("nor any user", x.find(0), NONE);
        Feed.put(x, "ann");
        Check.badArgument("find(3)", () -> x.find(3));
        Check.due("the buffer is empty after the exception", x.find(0), NONE);
        Check.badArgument("find(-1)", () -> x.find(-1));
        Feed.put(x, "ann");
        x.find(0);
        Check.due("the buffer is empty after an answer", Feed.append(x, " ".repeat(20)), 20);
    }

    private static void wordInTheBuffer() {
        PieceDeposits x = Feed.book("book 0 0 1 0 0;user a 99;piece a;piece z;word a a;word a az;");
        Check.due("spaces behind", find(x, "a" + " ".repeat(599), 1), 0);
        Check.due("spaces before", find(x, " a", 1), NONE);
        Check.due("spaces between", find(x, "a a", 1), NONE);
        Check.due("a line feed behind", find(x, "a\n", 1), NONE);
        Check.due("a capital", find(x, "A", 1), NONE);
        Check.due("a digit behind", find(x, "a1", 1), NONE);
        Check.due("a byte above 127 behind", find(x, "a\u00e9", 1), NONE);
        Check.due("before a", find(x, "`", 1), NONE);
        Check.due("behind z", find(x, "{", 1), NONE);
        Check.due("z", find(x, "z", 1), 1);
        Check.due("spaces alone", find(x, "     ", 1), NONE);
        Check.due("13 letters", find(x, "abcdefghijklm", 0), NONE);
        x.append(0x61626364, 0x65666768, 0x696a6b6c, 0x20202020, 0x20202020);
        Check.due("12 letters", x.quote(3), 2);
        Feed.append(x, "a                   ");
        Feed.append(x, "           b        ");
        Check.due("something far behind", x.find(1), NONE);
    }
}
