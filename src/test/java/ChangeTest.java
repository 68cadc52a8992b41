/** Promises 24 to 30: changes. */
final class ChangeTest {
    private static final int MOST = Integer.MAX_VALUE;

    private ChangeTest() {
    }

    static void run() {
        promise24Store();
        promise24Refusals();
        promise24WrongInputs();
        promise25Remove();
        promise25WordsBehind();
        promise26Recut();
        promise26Ties();
        promise27RecutAll();
        promise28Bring();
        promise28WrongInputs();
        promise29Tick();
        promise29KeepAndRefund();
        promise29Numbers();
        promise30Pay();
        coinsStayTheSame();
    }

    private static int store(PieceDeposits x, String word, int user) {
        return Feed.put(x, word).store(user);
    }

    private static int bring(PieceDeposits x, String word, int user) {
        return Feed.put(x, word).bring(user);
    }

    private static void coins(PieceDeposits x, int... due) {
        for (int user = 0; user < due.length; user++) {
            Check.due("coins of " + user, x.user(user, 0), due[user]);
        }
    }

    private static void treasury(PieceDeposits x, int chest, int fund) {
        Check.due("chest", x.size(4), chest);
        Check.due("fund", x.size(5), fund);
    }

    private static void promise24Store() {
        PieceDeposits x = Feed.book("book 10 4 3 1 50;user ann 100;user bob 50;piece c;");
        Check.due("the first word", store(x, "xyzc", 1), 0);
        // xyz is new: 22 for it, and 3 for each of the two pieces.
        coins(x, 100, 22);
        treasury(x, 22, 6);
        Check.due("the second word", store(x, "xyz", 0), 1);
        coins(x, 97, 22);
        treasury(x, 22, 9);
        Check.due("xyz is used twice", x.piece(1, 3), 2);
        Check.due("and stays bob's", x.piece(1, 2), 1);
        Check.due("a word twice", store(x, "xyz", 0), 2);
        Check.due("both are words", x.size(2), 3);
        // A new piece that occurs twice is paid once, and in the order of its first occurrence.
        PieceDeposits y = Feed.book("book 1 1 1 0 0;user a 99;");
        store(y, "ppppppqqqqqq", 0);
        Check.dueText("the first new piece", Feed.piece(y, 0), "pppppp");
        Check.dueText("the second new piece", Feed.piece(y, 1), "qqqqqq");
        store(y, "rrrrrrrrrrrr", 0);
        Check.due("one more piece", y.size(1), 3);
        Check.due("used twice", y.piece(2, 3), 2);
        coins(y, 99 - 14 - 2 - 7 - 2);
        Check.due("the buffer is empty", Feed.append(y, " ".repeat(20)), 20);
    }

    private static void promise24Refusals() {
        PieceDeposits x = Feed.book("book 10 2 3 1 50;user a 15;user b 14;");
        Feed.put(x, "q");
        Check.badState("too few coins", () -> x.store(1));
        Check.due("no change", x.size(11), 0);
        Check.due("no piece", x.size(1), 0);
        Check.due("the buffer is empty", x.quote(0), PieceDeposits.NONE);
        Check.due("enough", store(x, "q", 0), 0);
        coins(x, 0, 14);
        StringBuilder text = new StringBuilder("book 0 0 1 0 0;user a 99;");
        for (char c = 'a'; c < 'x'; c++) {
            text.append("piece ").append(c).append(';');
        }
        PieceDeposits y = Feed.book(text.toString());
        Feed.put(y, "yyyyyyzzzzzz");
        Check.badState("25 pieces", () -> y.store(0));
        Check.due("24 pieces", store(y, "yyyyyyyyyyyy", 0), 0);
        for (int word = 1; word < 16; word++) {
            Check.due("word", store(y, "a", 0), word);
        }
        Feed.put(y, "a");
        Check.badState("17 words", () -> y.store(0));
        Check.due("words", y.size(2), 16);
    }

    private static void promise24WrongInputs() {
        PieceDeposits x = Feed.book("book 0 0 1 0 0;user a 99;");
        Check.badArgument("no word", () -> x.store(0));
        Feed.put(x, "ab c");
        Check.badArgument("no word", () -> x.store(0));
        Feed.put(x, "abcdefghijklm");
        Check.badArgument("13 letters", () -> x.store(0));
        Check.outOfBounds("the user is checked first", () -> x.store(1));
        Feed.put(x, "ab");
        Check.outOfBounds("store(-1)", () -> x.store(-1));
        Check.badArgument("the buffer is empty", () -> x.store(0));
        Check.outOfBounds("store(most)", () -> x.store(MOST));
        Check.due("no change", x.size(11), 0);
        Check.due("no word", x.size(2), 0);
    }

    private static void promise25Remove() {
        PieceDeposits x = Feed.book("book 10 4 3 5 50;user ann 100;user bob 50;piece c;"
                + "word bob xyzc;word ann ccc;word ann xyz;");
        coins(x, 100 - 9 - 3, 22);
        x.tick(2);
        Check.due("coins then", x.remove(1), 97);
        treasury(x, 22, 9);
        Check.due("c is used once", x.piece(0, 3), 1);
        Check.dueText("the word behind moves up", Feed.word(x, 1), "xyz");
        Check.due("with its user", x.word(1, 0), 0);
        Check.due("coins of bob then", x.remove(0), 28);
        Check.due("c is idle", x.piece(0, 4), 2);
        Check.due("xyz is used", x.piece(1, 3), 1);
        Check.dueText("its cutting stays", Feed.cutting(x, 0), "xyz");
        Check.due("a change each", x.size(11), 3);
        Check.outOfBounds("remove(1)", () -> x.remove(1));
        Check.outOfBounds("remove(-1)", () -> x.remove(-1));
        Check.outOfBounds("remove(most)", () -> x.remove(MOST));
        Check.due("no change", x.size(11), 3);
    }

    private static void promise25WordsBehind() {
        PieceDeposits x = Feed.book("book 50 0 2 5 50;user a 900;user b 900;user c 900;piece p;"
                + "piece q;piece r;word a pq;word b qrp;word c r;word a rrrr;word b p;");
        x.remove(1);
        String[] words = {"p.q", "r", "r.r.r.r", "p"};
        int[] users = {0, 2, 0, 1};
        Check.due("words", x.size(2), 4);
        for (int word = 0; word < words.length; word++) {
            Check.dueText("cutting " + word, Feed.cutting(x, word), words[word]);
            Check.due("user of " + word, x.word(word, 0), users[word]);
            Check.due("pieces of " + word, x.word(word, 2), (words[word].length() + 1) / 2);
        }
        x.remove(3);
        x.remove(0);
        Check.dueText("cutting 0", Feed.cutting(x, 0), "r");
        Check.dueText("cutting 1", Feed.cutting(x, 1), "r.r.r.r");
        Check.due("words", x.size(2), 2);
        Check.due("whole", x.isWhole(), true);
    }

    private static void promise26Recut() {
        PieceDeposits x = Feed.book("book 20 0 4 9 0;user a 500;user b 500;piece a;piece b;piece c;"
                + "word a abcb;word b cb;");
        coins(x, 484, 492);
        bring(x, "bcb", 1);
        bring(x, "ab", 1);
        x.tick(3);
        // abc.b would need abc: a.bcb and ab.c.b are there.
        Check.due("two pieces less", x.recut(0), 8);
        Check.dueText("the new cutting", Feed.cutting(x, 0), "a.bcb");
        coins(x, 492, 452);
        treasury(x, 40, 16);
        Check.due("a is still used", x.piece(0, 3), 1);
        Check.due("b by the other word", x.piece(1, 3), 1);
        Check.due("bcb is used", x.piece(3, 4), PieceDeposits.NONE);
        Check.due("nothing more", x.recut(0), 0);
        Check.due("but a change", x.size(11), 5);
        Check.due("deposits that went back", x.account(3), 8);
        Check.due("deposits paid", x.account(2), 24);
        x.remove(1);
        Check.due("c is idle", x.piece(2, 4), 3);
        Check.outOfBounds("recut(1)", () -> x.recut(1));
        Check.outOfBounds("recut(-1)", () -> x.recut(-1));
        Check.outOfBounds("recut(most)", () -> x.recut(MOST));
    }

    private static void promise26Ties() {
        PieceDeposits x = Feed.book("book 20 0 4 9 0;user a 500;piece a;piece bc;word a abc;"
                + "piece ab;piece c;");
        Check.dueText("cut before", Feed.cutting(x, 0), "a.bc");
        Check.due("as many pieces", x.recut(0), 0);
        Check.dueText("but the longest first", Feed.cutting(x, 0), "ab.c");
        Check.due("a is idle", x.piece(0, 4), 0);
        Check.due("c is used", x.piece(3, 3), 1);
        Check.due("no new pieces", x.size(1), 4);
        // With the price 0 a new piece would be cheaper, but the book's pieces alone are used.
        PieceDeposits y = Feed.book("book 0 0 4 20 0;user a 500;word a aaaaaaaaaaab;");
        Check.due("recut", y.recut(0), 0);
        Check.due("pieces", y.size(1), 2);
        // The new piece ghijkl would be worth its price 2, but it is not in the book.
        PieceDeposits w = Feed.book("book 2 0 3 9 0;user a 500;piece abcd;piece efgh;piece ijkl;"
                + "word a abcdefghijkl;");
        bring(w, "abcdef", 0);
        Check.due("fewest", w.fewest(0), 3);
        Check.due("nothing back", w.recut(0), 0);
        Check.dueText("the same cutting", Feed.cutting(w, 0), "abcd.efgh.ijkl");
        Check.due("of known pieces", w.part(0, 2), 2);
        // A piece in both cuttings is never without uses.
        PieceDeposits z = Feed.book("book 20 0 4 0 0;user a 500;word a abcdef;");
        z.tick(5);
        z.recut(0);
        Check.due("used all the time", z.piece(0, 4), PieceDeposits.NONE);
        Check.due("it stays", z.tick(1), 0);
    }

    private static void promise27RecutAll() {
        PieceDeposits x = Feed.book("book 50 0 4 9 0;user a 500;user b 500;piece a;piece b;piece c;"
                + "word a abcb;word b cb;word b aa;word b bcb;");
        coins(x, 484, 472);
        bring(x, "cb", 0);
        bring(x, "bcb", 0);
        Check.due("all coins back", x.recutAll(), 8 + 4 + 8);
        coins(x, 484 - 100 + 8, 472 + 4 + 8);
        String[] due = {"a.bcb", "cb", "a.a", "bcb"};
        for (int word = 0; word < due.length; word++) {
            Check.dueText("cutting " + word, Feed.cutting(x, word), due[word]);
        }
        Check.due("one change", x.size(11), 3);
        Check.due("nothing more", x.recutAll(), 0);
        Check.due("but a change", x.size(11), 4);
        x.undo();
        Check.due("undone at once", x.undo(), 2);
        Check.dueText("as before", Feed.cutting(x, 0), "a.b.c.b");
        Check.due("without words", new PieceDeposits().recutAll(), 0);
    }

    private static void promise28Bring() {
        PieceDeposits x = Feed.book("book 10 2 3 1 50;user a 37;user b 50;piece c;");
        x.tick(2);
        Check.due("the number", bring(x, "abcdef", 1), 1);
        coins(x, 37, 28);
        treasury(x, 22, 0);
        Check.due("its price", x.piece(1, 1), 22);
        Check.due("its owner", x.piece(1, 2), 1);
        Check.due("no uses", x.piece(1, 3), 0);
        Check.due("idle since now", x.piece(1, 4), 2);
        Check.due("all coins", bring(x, "q", 0), 2);
        Check.due("coins left", x.user(0, 0), 25);
        bring(x, "r", 0);
        Check.due("coins left", x.user(0, 0), 13);
        Check.due("prices", x.account(0), 46);
        Check.due("pieces for a price", x.account(4), 3);
        Check.due("a change each", x.size(11), 4);
    }

    private static void promise28WrongInputs() {
        PieceDeposits x = Feed.book("book 10 2 3 1 50;user a 12;user b 11;piece c;");
        Check.badArgument("no word", () -> x.bring(0));
        Check.badArgument("7 letters", () -> bring(x, "abcdefg", 0));
        Check.badArgument("12 letters", () -> bring(x, "abcdefghijkl", 0));
        Check.badArgument("no word", () -> bring(x, "a b", 0));
        Check.badArgument("the book has it", () -> bring(x, "c", 0));
        Check.badArgument("also if the coins are too few", () -> bring(x, "c", 1));
        Check.outOfBounds("the user is checked first", () -> bring(x, "c", 2));
        Check.outOfBounds("bring(-1)", () -> bring(x, "d", -1));
        Check.badArgument("the buffer is empty", () -> x.bring(0));
        Check.badState("too few coins", () -> bring(x, "d", 1));
        Check.due("the buffer is empty", Feed.append(x, "d                   "), 20);
        Check.due("enough", x.bring(0), 1);
        Check.due("one change", x.size(11), 1);
        StringBuilder text = new StringBuilder("book 0 0 1 0 0;user a 99;");
        for (char c = 'a'; c < 'x'; c++) {
            text.append("piece ").append(c).append(';');
        }
        PieceDeposits y = Feed.book(text.toString());
        Check.due("the 24th piece", bring(y, "yy", 0), 23);
        Check.badArgument("the book has it", () -> bring(y, "a", 0));
        Check.badState("24 pieces", () -> bring(y, "y", 0));
        Check.due("one change", y.size(11), 1);
    }

    private static void promise29Tick() {
        PieceDeposits x = Feed.book("book 10 0 3 2 50;user a 90;user b 50;piece c;");
        Check.due("a house piece stays", x.tick(30), 0);
        Check.due("the time", x.size(3), 30);
        bring(x, "ab", 0);
        Check.due("kept", x.tick(2), 0);
        bring(x, "xy", 1);
        Check.due("went back", x.tick(1), 1);
        coins(x, 85, 40);
        treasury(x, 15, 0);
        Check.dueText("xy is piece 1", Feed.piece(x, 1), "xy");
        Check.due("refunds", x.account(1), 5);
        Check.due("pieces that went back", x.account(5), 1);
        store(x, "xy", 0);
        Check.due("a used piece stays", x.tick(30), 0);
        x.remove(0);
        bring(x, "uv", 0);
        Check.due("both", x.tick(3), 2);
        coins(x, 85 - 10 + 5, 45);
        Check.due("pieces", x.size(1), 1);
        Check.badArgument("tick(0)", () -> x.tick(0));
        Check.badArgument("tick(31)", () -> x.tick(31));
        Check.badArgument("tick(-1)", () -> x.tick(-1));
        Check.badArgument("tick(most)", () -> x.tick(MOST));
        Check.due("the time", x.size(3), 66);
    }

    private static void promise29KeepAndRefund() {
        PieceDeposits x = Feed.book("book 99 9 3 0 99;user a 999;");
        bring(x, "abcdef", 0);
        Check.due("keep 0", x.tick(1), 1);
        // 153 * 99 / 100 is 151.
        coins(x, 999 - 153 + 151);
        treasury(x, 2, 0);
        PieceDeposits y = Feed.book("book 99 9 3 20 100;user a 999;");
        bring(y, "abcdef", 0);
        Check.due("keep 20", y.tick(20), 0);
        Check.due("keep 20", y.tick(1), 1);
        coins(y, 999);
        PieceDeposits z = Feed.book("book 99 9 3 1 0;user a 999;");
        bring(z, "abcdef", 0);
        Check.due("refund 0", z.tick(5), 1);
        coins(z, 846);
        treasury(z, 153, 0);
    }

    private static void promise29Numbers() {
        PieceDeposits x = Feed.book("book 10 0 3 0 50;user a 500;piece a;");
        bring(x, "bb", 0);
        store(x, "cc", 0);
        bring(x, "dd", 0);
        bring(x, "ee", 0);
        store(x, "ff", 0);
        store(x, "ffcca", 0);
        Check.due("bb, dd and ee", x.tick(1), 3);
        String[] due = {"a", "cc", "ff"};
        Check.due("pieces", x.size(1), 3);
        for (int piece = 0; piece < due.length; piece++) {
            Check.dueText("piece " + piece, Feed.piece(x, piece), due[piece]);
        }
        Check.dueText("the cuttings stay", Feed.cutting(x, 2), "ff.cc.a");
        Check.due("with less numbers", x.part(2, 0), 2);
        Check.due("with less numbers", x.part(2, 1), 1);
        Check.due("or the same", x.part(2, 2), 0);
        Check.due("uses of cc", x.piece(1, 3), 2);
        PieceDeposits y = Feed.book("book 10 1 3 2 50;user a 500;user b 500;piece a;");
        bring(y, "bb", 0);
        y.tick(1);
        bring(y, "ccc", 1);
        y.tick(2);
        Check.due("ccc stays", y.size(1), 2);
        Check.due("its letters", y.piece(1, 0), 3);
        Check.due("its price", y.piece(1, 1), 13);
        Check.due("its owner", y.piece(1, 2), 1);
        Check.due("its uses", y.piece(1, 3), 0);
        Check.due("idle since", y.piece(1, 4), 1);
        Check.due("whole", x.isWhole(), true);
        Check.due("no more", x.tick(5), 0);
    }

    private static void promise30Pay() {
        PieceDeposits x = Feed.book("book 0 0 1 0 0;user a 30;user b 5;");
        Check.due("coins of the other then", x.pay(0, 1, 12), 17);
        coins(x, 18, 17);
        Check.due("to itself", x.pay(1, 1, 17), 17);
        Check.due("nothing", x.pay(0, 1, 0), 17);
        Check.due("all", x.pay(0, 1, 18), 35);
        coins(x, 0, 35);
        Check.badState("not so many", () -> x.pay(0, 1, 1));
        Check.badState("not so many to itself", () -> x.pay(1, 1, 36));
        Check.badState("9999", () -> x.pay(1, 0, 9999));
        Check.badArgument("10000", () -> x.pay(1, 0, 10000));
        Check.badArgument("-1", () -> x.pay(1, 0, -1));
        Check.outOfBounds("pay(2, 0, 0)", () -> x.pay(2, 0, 0));
        Check.outOfBounds("pay(0, 2, 0)", () -> x.pay(0, 2, 0));
        Check.outOfBounds("the users are checked first", () -> x.pay(-1, 0, -1));
        Check.outOfBounds("the users are checked first", () -> x.pay(0, -1, 10000));
        Check.due("four changes", x.size(11), 4);
        PieceDeposits y = Feed.book("book 0 0 1 0 0;user a 9999;user b 9999;");
        Check.due("the most", y.pay(0, 1, 9999), 19998);
    }

    private static void coinsStayTheSame() {
        PieceDeposits x = Feed.book("book 7 3 2 1 33;user a 400;user b 300;piece a;word a abc;");
        store(x, "abcabc", 1);
        bring(x, "cd", 0);
        x.recutAll();
        x.remove(0);
        x.tick(9);
        store(x, "zz", 0);
        x.pay(0, 1, 5);
        Check.due("all coins", x.user(0, 0) + x.user(1, 0) + x.size(4) + x.size(5), 700);
    }
}
