/**
 * Each "Throws" of the promises, on the boundary and behind it, in the order in which it is
 * checked; a method that throws an exception changes nothing (except the input buffer, where this
 * is said).
 */
final class RefusalTest {
    private static final int LEAST = Integer.MIN_VALUE;
    private static final int MOST = Integer.MAX_VALUE;
    /** The numbers that no user, piece, word or slot has, if there are so many. */
    private static final int[] BELOW = {LEAST, -2, -1};

    private RefusalTest() {
    }

    static void run() {
        promise3Length();
        promise5And6What();
        promise7User();
        promise8And9Piece();
        promise10To12Word();
        promise13What();
        promise14User();
        promise15To17Word();
        promise18BestPart();
        promise19Shared();
        promise23What();
        promise24Store();
        promise24StoreInOrder();
        promise25And26Word();
        promise28Bring();
        promise28BringInOrder();
        promise29Ticks();
        promise30Pay();
        promise30PayInOrder();
        promise32And33Slots();
        nothingOfANewObject();
    }

    private static int[] outside(int count) {
        return new int[] {LEAST, LEAST + 1, -count, -2, -1, count, count + 1, 1000, MOST};
    }

    private static void bounds(String what, Refusal.Use use) {
        Refusal.leavesAll(what, Refusal.BOUNDS, Sample::rich, use);
    }

    private static void argument(String what, Refusal.Use use) {
        Refusal.leavesAll(what, Refusal.ARGUMENT, Sample::rich, use);
    }

    private static void state(String what, Refusal.Use use) {
        Refusal.leavesAll(what, Refusal.STATE, Sample::rich, use);
    }

    private static void emptied(String what, String due, String buffer, Refusal.Use use) {
        Refusal.emptiesBuffer(what, due, Sample::rich, buffer, use);
    }

    /** If length is out of range the buffer stays. */
    private static void promise3Length() {
        int[] lengths = {LEAST, -20, -1, 21, 22, 600, 601, MOST};
        for (int length : lengths) {
            argument("parse(" + length + ")", x -> x.parse(length));
        }
        PieceDeposits x = Feed.put(new PieceDeposits(), "book 0 0 1 0 0;user ann 7;");
        Check.badArgument("parse(41)", () -> x.parse(41));
        Check.badArgument("parse(-1)", () -> x.parse(-1));
        Check.due("the text is still there", x.parse(40), 0);
        Check.due("coins", x.user(0, 0), 7);
    }

    private static void promise5And6What() {
        for (int what : outside(12)) {
            argument("size(" + what + ")", x -> x.size(what));
        }
        for (int kind : outside(3)) {
            emptied("find(" + kind + ")", Refusal.ARGUMENT, "ab", x -> x.find(kind));
            emptied("find(" + kind + ")", Refusal.ARGUMENT, "a b", x -> x.find(kind));
            emptied("find(" + kind + ")", Refusal.ARGUMENT, "", x -> x.find(kind));
        }
    }

    private static void promise7User() {
        for (int user : outside(3)) {
            bounds("user(" + user + ", 0)", x -> x.user(user, 0));
            bounds("user(" + user + ", 5)", x -> x.user(user, 5));
            bounds("user(" + user + ", -1)", x -> x.user(user, -1));
        }
        for (int what : outside(5)) {
            argument("user(0, " + what + ")", x -> x.user(0, what));
            argument("user(2, " + what + ")", x -> x.user(2, what));
        }
    }

    private static void promise8And9Piece() {
        for (int piece : outside(5)) {
            bounds("piece(" + piece + ", 0)", x -> x.piece(piece, 0));
            bounds("piece(" + piece + ", 5)", x -> x.piece(piece, 5));
            bounds("piece(" + piece + ", -1)", x -> x.piece(piece, -1));
            bounds("pieceLetter(" + piece + ", 0)", x -> x.pieceLetter(piece, 0));
            bounds("pieceLetter(" + piece + ", -1)", x -> x.pieceLetter(piece, -1));
        }
        for (int what : outside(5)) {
            argument("piece(0, " + what + ")", x -> x.piece(0, what));
            argument("piece(4, " + what + ")", x -> x.piece(4, what));
        }
    }

    private static void promise10To12Word() {
        for (int word : outside(3)) {
            bounds("word(" + word + ", 0)", x -> x.word(word, 0));
            bounds("word(" + word + ", 4)", x -> x.word(word, 4));
            bounds("word(" + word + ", -1)", x -> x.word(word, -1));
            bounds("wordLetter(" + word + ", 0)", x -> x.wordLetter(word, 0));
            bounds("wordLetter(" + word + ", -1)", x -> x.wordLetter(word, -1));
            bounds("part(" + word + ", 0)", x -> x.part(word, 0));
            bounds("part(" + word + ", -1)", x -> x.part(word, -1));
        }
        for (int what : outside(4)) {
            argument("word(0, " + what + ")", x -> x.word(0, what));
            argument("word(2, " + what + ")", x -> x.word(2, what));
        }
    }

    private static void promise13What() {
        for (int what : outside(5)) {
            emptied("quote(" + what + ")", Refusal.ARGUMENT, "ab", x -> x.quote(what));
            emptied("quote(" + what + ")", Refusal.ARGUMENT, "a b", x -> x.quote(what));
            emptied("quote(" + what + ")", Refusal.ARGUMENT, "", x -> x.quote(what));
        }
    }

    private static void promise14User() {
        for (int user : outside(3)) {
            emptied("whyNotStore(" + user + ")", Refusal.BOUNDS, "ab", x -> x.whyNotStore(user));
            emptied("whyNotStore(" + user + ")", Refusal.BOUNDS, "a b", x -> x.whyNotStore(user));
            emptied("whyNotStore(" + user + ")", Refusal.BOUNDS, "", x -> x.whyNotStore(user));
        }
    }

    private static void promise15To17Word() {
        for (int word : outside(3)) {
            bounds("ways(" + word + ")", x -> x.ways(word));
            bounds("fewest(" + word + ")", x -> x.fewest(word));
            bounds("saving(" + word + ")", x -> x.saving(word));
        }
    }

    private static void promise18BestPart() {
        for (int word : outside(3)) {
            bounds("bestPart(" + word + ", 0)", x -> x.bestPart(word, 0));
            bounds("bestPart(" + word + ", 3)", x -> x.bestPart(word, 3));
            bounds("bestPart(" + word + ", -1)", x -> x.bestPart(word, -1));
        }
        for (int what : outside(3)) {
            argument("bestPart(0, " + what + ")", x -> x.bestPart(0, what));
            argument("bestPart(2, " + what + ")", x -> x.bestPart(2, what));
        }
        // Also if no part makes the sum less.
        PieceDeposits x = Feed.book("book 0 0 1 0 0;user u 9;word u a;");
        Check.due("none", x.bestPart(0, 2), PieceDeposits.NONE);
        Check.badArgument("bestPart(0, 3)", () -> x.bestPart(0, 3));
        Check.badArgument("bestPart(0, -1)", () -> x.bestPart(0, -1));
    }

    private static void promise19Shared() {
        for (int word : outside(3)) {
            bounds("shared(" + word + ", 0)", x -> x.shared(word, 0));
            bounds("shared(0, " + word + ")", x -> x.shared(0, word));
            bounds("shared(2, " + word + ")", x -> x.shared(2, word));
            bounds("shared(" + word + ", " + word + ")", x -> x.shared(word, word));
        }
    }

    private static void promise23What() {
        for (int what : outside(6)) {
            argument("account(" + what + ")", x -> x.account(what));
        }
    }

    private static void promise24Store() {
        for (int user : outside(3)) {
            emptied("store(" + user + ")", Refusal.BOUNDS, "ab", x -> x.store(user));
        }
        String[] none = {"", "a b", " a", "A", "a\n", "abcdefghijklm", "a1", ";"};
        for (String buffer : none) {
            emptied("store without a word", Refusal.ARGUMENT, buffer, x -> x.store(0));
        }
        // eve has 2 coins; ab costs a deposit of 3.
        emptied("store for eve", Refusal.STATE, "ab", x -> x.store(2));
        emptied("store for eve", Refusal.STATE, "zzzzzzyyyyyy", x -> x.store(2));
        Refusal.emptiesBuffer("the 17th word", Refusal.STATE, () -> Sample.full(1, 16), "a",
                x -> x.store(0));
        Refusal.emptiesBuffer("the 25th piece", Refusal.STATE, () -> Sample.full(24, 0), "y",
                x -> x.store(0));
        Refusal.emptiesBuffer("the 25th piece", Refusal.STATE, () -> Sample.full(23, 1),
                "yyyyyyzzzzzz", x -> x.store(0));
    }

    /** IndexOutOfBounds first, IllegalArgument second, IllegalState last. */
    private static void promise24StoreInOrder() {
        for (int user : BELOW) {
            emptied("no user, no word", Refusal.BOUNDS, "a b", x -> x.store(user));
            emptied("no user, no word", Refusal.BOUNDS, "", x -> x.store(user));
        }
        emptied("no user, no word", Refusal.BOUNDS, "abcdefghijklm", x -> x.store(3));
        emptied("no word, no coins", Refusal.ARGUMENT, "", x -> x.store(2));
        Refusal.Make full = () -> Sample.full(24, 16);
        Refusal.emptiesBuffer("no user", Refusal.BOUNDS, full, "y", x -> x.store(1));
        Refusal.emptiesBuffer("no user, no word", Refusal.BOUNDS, full, "", x -> x.store(1));
        Refusal.emptiesBuffer("no word", Refusal.ARGUMENT, full, "y.", x -> x.store(0));
        Refusal.emptiesBuffer("no place", Refusal.STATE, full, "y", x -> x.store(0));
    }

    private static void promise25And26Word() {
        for (int word : outside(3)) {
            bounds("remove(" + word + ")", x -> x.remove(word));
            bounds("recut(" + word + ")", x -> x.recut(word));
        }
    }

    private static void promise28Bring() {
        for (int user : outside(3)) {
            emptied("bring(" + user + ")", Refusal.BOUNDS, "zz", x -> x.bring(user));
        }
        String[] none = {"", "a b", " a", "A", "a\n", "abcdefg", "abcdefghijkl", "abcdefghijklm"};
        for (String buffer : none) {
            emptied("bring without a word", Refusal.ARGUMENT, buffer, x -> x.bring(0));
        }
        String[] known = {"ab", "c", "xyz", "cd", "uv"};
        for (String piece : known) {
            emptied("bring of a known piece", Refusal.ARGUMENT, piece, x -> x.bring(1));
        }
        emptied("bring for eve", Refusal.STATE, "q", x -> x.bring(2));
        Refusal.emptiesBuffer("the 25th piece", Refusal.STATE, () -> Sample.full(24, 0), "y",
                x -> x.bring(0));
    }

    private static void promise28BringInOrder() {
        for (int user : BELOW) {
            emptied("no user, no word", Refusal.BOUNDS, "", x -> x.bring(user));
            emptied("no user, a known piece", Refusal.BOUNDS, "ab", x -> x.bring(user));
        }
        emptied("no user, 7 letters", Refusal.BOUNDS, "abcdefg", x -> x.bring(3));
        emptied("no word, no coins", Refusal.ARGUMENT, "", x -> x.bring(2));
        emptied("7 letters, no coins", Refusal.ARGUMENT, "abcdefg", x -> x.bring(2));
        emptied("a known piece, no coins", Refusal.ARGUMENT, "cd", x -> x.bring(2));
        Refusal.Make full = () -> Sample.full(24, 0);
        Refusal.emptiesBuffer("no user", Refusal.BOUNDS, full, "y", x -> x.bring(1));
        Refusal.emptiesBuffer("no word", Refusal.ARGUMENT, full, "y.", x -> x.bring(0));
        Refusal.emptiesBuffer("7 letters", Refusal.ARGUMENT, full, "yyyyyyy", x -> x.bring(0));
        Refusal.emptiesBuffer("a known piece", Refusal.ARGUMENT, full, "x", x -> x.bring(0));
        Refusal.emptiesBuffer("no place", Refusal.STATE, full, "y", x -> x.bring(0));
    }

    private static void promise29Ticks() {
        int[] out = {LEAST, -30, -1, 0, 31, 32, 1000, MOST};
        for (int ticks : out) {
            argument("tick(" + ticks + ")", x -> x.tick(ticks));
        }
    }

    private static void promise30Pay() {
        for (int user : outside(3)) {
            bounds("pay(" + user + ", 0, 1)", x -> x.pay(user, 0, 1));
            bounds("pay(0, " + user + ", 1)", x -> x.pay(0, user, 1));
            bounds("pay(" + user + ", " + user + ", 0)", x -> x.pay(user, user, 0));
        }
        int[] out = {LEAST, -9999, -1, 10000, 10001, MOST};
        for (int coins : out) {
            argument("pay(0, 1, " + coins + ")", x -> x.pay(0, 1, coins));
            argument("pay(0, 0, " + coins + ")", x -> x.pay(0, 0, coins));
        }
        state("eve has 2", x -> x.pay(2, 0, 3));
        state("eve has 2", x -> x.pay(2, 2, 3));
        state("eve has 2", x -> x.pay(2, 1, 9999));
        state("ann has less", x -> x.pay(0, 1, 400));
    }

    /** The users are checked first, the range of coins second. */
    private static void promise30PayInOrder() {
        int[] coins = {LEAST, -1, 10000, 9999, MOST};
        for (int number : coins) {
            bounds("user first", x -> x.pay(3, 0, number));
            bounds("other first", x -> x.pay(2, 3, number));
            bounds("user first", x -> x.pay(-1, 0, number));
            bounds("other first", x -> x.pay(2, -1, number));
        }
        argument("the range second", x -> x.pay(2, 0, 10000));
        argument("the range second", x -> x.pay(2, 2, -1));
        state("the coins last", x -> x.pay(2, 0, 9999));
    }

    private static void promise32And33Slots() {
        for (int slot : outside(2)) {
            bounds("saveSnapshot(" + slot + ")", x -> x.saveSnapshot(slot) ? 1 : 0);
            bounds("restoreSnapshot(" + slot + ")", x -> x.restoreSnapshot(slot));
        }
        // With one slot filled, and a change to undo.
        for (int filled = 0; filled < 2; filled++) {
            int full = filled;
            int empty = 1 - filled;
            Refusal.Make one = () -> {
                PieceDeposits x = Sample.withoutChanges();
                x.saveSnapshot(full);
                x.pay(0, 1, 5);
                return x;
            };
            Refusal.leavesAll("an empty slot", Refusal.STATE, one, x -> x.restoreSnapshot(empty));
            Refusal.leavesAll("no slot", Refusal.BOUNDS, one, x -> x.restoreSnapshot(2));
        }
    }

    /** A new object has no user, piece, word or snapshot. */
    private static void nothingOfANewObject() {
        int[] all = {LEAST, -1, 0, 1, MOST};
        for (int number : all) {
            none("user", x -> x.user(number, 0));
            none("user", x -> x.user(number, 5));
            none("piece", x -> x.piece(number, 0));
            none("piece", x -> x.piece(number, -1));
            none("pieceLetter", x -> x.pieceLetter(number, 0));
            none("word", x -> x.word(number, 0));
            none("word", x -> x.word(number, 4));
            none("wordLetter", x -> x.wordLetter(number, 0));
            none("part", x -> x.part(number, 0));
            none("ways", x -> x.ways(number));
            none("fewest", x -> x.fewest(number));
            none("saving", x -> x.saving(number));
            none("bestPart", x -> x.bestPart(number, 3));
            none("shared", x -> x.shared(number, number));
            none("whyNotStore", x -> Feed.put(x, "").whyNotStore(number));
            none("remove", x -> x.remove(number));
            none("recut", x -> x.recut(number));
            none("pay", x -> x.pay(number, number, -1));
        }
        Refusal.emptiesBuffer("store", Refusal.BOUNDS, PieceDeposits::new, "a", x -> x.store(0));
        Refusal.emptiesBuffer("bring", Refusal.BOUNDS, PieceDeposits::new, "a", x -> x.bring(0));
        Refusal.emptiesBuffer("whyNotStore", Refusal.BOUNDS, PieceDeposits::new, "a",
                x -> x.whyNotStore(0));
        Refusal.leavesAll("restoreSnapshot", Refusal.STATE, PieceDeposits::new,
                x -> x.restoreSnapshot(0));
    }

    private static void none(String what, Refusal.Use use) {
        Refusal.Make make = () -> new PieceDeposits();
        if (what.equals("whyNotStore")) {
            Refusal.emptiesBuffer(what, Refusal.BOUNDS, make, "", use);
        } else {
            Refusal.leavesAll(what, Refusal.BOUNDS, make, use);
        }
    }
}
