/** The boundaries of promises 1 and 2, of parse's length, and of how a word is read. */
final class BufferEdgeTest {
    private static final int NONE = PieceDeposits.NONE;
    private static final int MOST_BYTES = 600;
    private static final String BLANKS = " ".repeat(Feed.STEP);

    private BufferEdgeTest() {
    }

    static void run() {
        promise1BookOfTheText();
        promise1EmptyBuffer();
        promise1NothingToGoBackTo();
        promise2AtMost600Bytes();
        promise2NothingIsAppended();
        promise2EachByte();
        promise2MostSignificantByteFirst();
        promise3Length0();
        promise3LengthOfTheBuffer();
        promise3LengthInside();
        promise3TextOf600Bytes();
        promise3WholeBufferIsEmptied();
        wordOf0To13Letters();
        wordOfLettersAToZ();
        wordWithBytes32Behind();
        wordThatFillsTheBuffer();
        wordWithAnythingElse();
        emptyAfterAnAnswer();
        emptyAfterNoWord();
        otherCallsLeaveTheBuffer();
        the512thCall();
    }

    /** Creates a book as with the text "book 0 0 1 0 0;". */
    private static void promise1BookOfTheText() {
        PieceDeposits parsed = Feed.book("book 0 0 1 0 0;");
        Check.dueText("a new object", Refusal.allOf(new PieceDeposits()), Refusal.allOf(parsed));
        PieceDeposits x = new PieceDeposits();
        Check.outOfBounds("no user 0", () -> x.user(0, 0));
        Check.outOfBounds("no piece 0", () -> x.piece(0, 0));
        Check.outOfBounds("no word 0", () -> x.word(0, 0));
        Check.due("no piece is used", x.favourite(), NONE);
        Check.due("no user is rich", x.richest(), NONE);
        Check.due("whole", x.isWhole(), true);
        Check.due("deposit", Feed.put(x, "abc").quote(1), 1);
        Check.due("prices", Feed.put(x, "abc").quote(2), 0);
    }

    /** ... with an empty input buffer. */
    private static void promise1EmptyBuffer() {
        Check.due("the first append", Feed.append(new PieceDeposits(), BLANKS), 20);
        PieceDeposits x = new PieceDeposits();
        Check.badArgument("parse(1)", () -> x.parse(1));
        Check.due("parse(0)", x.parse(0), 1);
        Check.due("no word", new PieceDeposits().find(0), NONE);
        Check.due("no word", new PieceDeposits().quote(0), NONE);
    }

    private static void promise1NothingToGoBackTo() {
        PieceDeposits x = new PieceDeposits();
        Check.due("no change", x.size(11), 0);
        Check.due("no undo", x.undo(), NONE);
        Check.due("no position", x.errorPosition(), NONE);
        for (int slot = 0; slot < 2; slot++) {
            int s = slot;
            Check.badState("slot " + slot, () -> x.restoreSnapshot(s));
            Check.due("slot " + slot, x.saveSnapshot(slot), false);
        }
    }

    /** Returns the new length; NONE if it would exceed 600. */
    private static void promise2AtMost600Bytes() {
        PieceDeposits x = new PieceDeposits();
        for (int length = 20; length <= MOST_BYTES; length += 20) {
            Check.due("length", x.append(0, 0, 0, 0, 0), length);
        }
        Check.due("620 bytes", x.append(0, 0, 0, 0, 0), NONE);
        Check.due("620 bytes", Feed.append(x, BLANKS), NONE);
        x.find(0);
        Check.due("an emptied buffer", x.append(0, 0, 0, 0, 0), 20);
    }

    /** NONE, with nothing appended. */
    private static void promise2NothingIsAppended() {
        String text = "book 0 0 1 0 0;user abcdefghijkl 7;" + " ".repeat(545) + "user b 8; piece c ;";
        Check.due("bytes", text.length(), MOST_BYTES - 1);
        PieceDeposits x = Feed.put(new PieceDeposits(), text);
        Check.due("too much", x.append(-1, -1, -1, -1, -1), NONE);
        Check.due("too much", Feed.append(x, "book 0 0 1 0 0;user "), NONE);
        Check.badArgument("parse(601)", () -> x.parse(MOST_BYTES + 1));
        Check.badArgument("parse(620)", () -> x.parse(MOST_BYTES + 20));
        Check.due("parse(600)", x.parse(MOST_BYTES), 0);
        Check.due("users", x.size(0), 2);
        Check.due("pieces", x.size(1), 1);
    }

    /** Each byte is that of its place: one that is invalid is found there, among 19 spaces. */
    private static void promise2EachByte() {
        for (int at = 0; at < Feed.STEP; at++) {
            int[] four = {0x20202020, 0x20202020, 0x20202020, 0x20202020, 0x20202020};
            int shift = 24 - at % 4 * 8;
            four[at / 4] ^= (0x20 ^ 0x23) << shift;
            PieceDeposits x = new PieceDeposits();
            x.append(four[0], four[1], four[2], four[3], four[4]);
            Check.due("an invalid byte", x.parse(20), 1);
            Check.due("at its place", x.errorPosition(), at);
            four[at / 4] ^= (0x23 ^ 0xff) << shift;
            x.append(four[0], four[1], four[2], four[3], four[4]);
            Check.due("byte 255", x.parse(20), 1);
            Check.due("at its place", x.errorPosition(), at);
        }
    }

    private static void promise2MostSignificantByteFirst() {
        PieceDeposits x = Feed.book("book 0 0 1 0 0;piece dcba;piece abcd;user ijklefghabcd 1;"
                + "user abcdefghijkl 2;");
        x.append(0x61626364, 0x20202020, 0x20202020, 0x20202020, 0x20202020);
        Check.due("abcd", x.find(1), 1);
        x.append(0x64636261, 0x20202020, 0x20202020, 0x20202020, 0x20202020);
        Check.due("dcba", x.find(1), 0);
        x.append(0x61626364, 0x65666768, 0x696a6b6c, 0x20202020, 0x20202020);
        Check.due("the first argument first", x.find(0), 1);
        // Of the fourth and fifth one the text tells: 3 coins.
        x.append(0x626f6f6b, 0x20302030, 0x20312030, 0x2039383b, 0x75736572);
        x.append(0x20782033, 0x3b202020, 0x20202020, 0x20202020, 0x20202020);
        Check.due("parse", x.parse(40), 0);
        Check.due("refund", x.size(10), 98);
        Check.due("coins", x.user(0, 0), 3);
    }

    /** length: 0 to the length of the buffer. */
    private static void promise3Length0() {
        PieceDeposits x = Feed.put(new PieceDeposits(), "book 0 0 1 0 0;");
        Check.badArgument("parse(-1)", () -> x.parse(-1));
        Check.due("parse(0)", x.parse(0), 1);
        Check.due("an empty text ends too early", x.errorPosition(), 0);
        Check.due("the whole buffer is empty", Feed.append(x, BLANKS), 20);
        Check.due("parse(1)", x.parse(1), 1);
        Check.due("a space", x.errorPosition(), 1);
    }

    private static void promise3LengthOfTheBuffer() {
        String text = "book 0 0 1 0 0;user ";
        PieceDeposits x = Feed.put(new PieceDeposits(), text);
        Check.badArgument("parse(21)", () -> x.parse(21));
        Check.due("parse(20)", x.parse(20), 1);
        Check.due("position", x.errorPosition(), 20);
        Feed.put(x, text);
        Check.due("parse(19)", x.parse(19), 1);
        Check.due("position", x.errorPosition(), 19);
        Check.badArgument("parse(1) of the empty buffer", () -> x.parse(1));
    }

    /** The first length bytes are parsed, and no others. */
    private static void promise3LengthInside() {
        String text = "book 0 0 1 0 12;piece ab;";
        int[] lengths = {13, 14, 15, 16, 17, 24, 25};
        int[] codes = {1, 1, 1, 0, 1, 1, 0};
        int[] positions = {13, 14, 15, NONE, 16, 24, NONE};
        for (int i = 0; i < lengths.length; i++) {
            PieceDeposits x = Feed.put(new PieceDeposits(), text);
            Check.due("parse(" + lengths[i] + ")", x.parse(lengths[i]), codes[i]);
            Check.due("position", x.errorPosition(), positions[i]);
        }
        PieceDeposits y = Feed.put(new PieceDeposits(), "book 0 0 1 0 0;user a 1234;");
        Check.due("within a number", y.parse(24), 1);
        Check.due("position", y.errorPosition(), 24);
    }

    /** A text of at most 600 bytes. */
    private static void promise3TextOf600Bytes() {
        for (int length = MOST_BYTES - 2; length <= MOST_BYTES; length++) {
            String end = "piece zz;";
            String text = "book 0 0 1 0 0;";
            text += " ".repeat(length - text.length() - end.length()) + end;
            PieceDeposits x = Feed.put(new PieceDeposits(), text);
            Check.due("a text of " + length, x.parse(length), 0);
            Check.dueText("its last bytes count", Feed.piece(x, 0), "zz");
            Feed.put(x, text.substring(0, length - 1) + "#");
            Check.due("a last byte that is wrong", x.parse(length), 1);
            Check.due("position", x.errorPosition(), length - 1);
        }
    }

    private static void promise3WholeBufferIsEmptied() {
        PieceDeposits x = Feed.put(new PieceDeposits(), "book 0 0 1 0 0;" + " ".repeat(585));
        Check.due("success", x.parse(15), 0);
        Check.due("all of it is gone", Feed.append(x, BLANKS), 20);
        Feed.put(x, " ".repeat(580));
        Check.due("error", x.parse(15), 1);
        Check.due("all of it is gone", Feed.append(x, BLANKS), 20);
    }

    /** Whether there is a word in the buffer: quote has an answer then. */
    private static void isWord(String what, String bytes, boolean due) {
        PieceDeposits x = Feed.put(new PieceDeposits(), bytes);
        Check.due(what, x.quote(0) != NONE, due);
        Check.due(what + ": empty then", Feed.append(x, BLANKS), 20);
    }

    /** It contains 1 to 12 letters. */
    private static void wordOf0To13Letters() {
        isWord("an empty buffer", "", false);
        isWord("20 spaces", BLANKS, false);
        isWord("600 spaces", " ".repeat(MOST_BYTES), false);
        for (int letters = 1; letters <= 20; letters++) {
            isWord(letters + " letters", Sample.ALPHABET.substring(0, letters), letters <= 12);
        }
        isWord("600 letters", "a".repeat(MOST_BYTES), false);
        PieceDeposits x = Feed.book("book 0 0 1 0 0;user a 9;");
        Check.due("a word of 12 letters", Feed.put(x, "abcdefghijkl").store(0), 0);
        Check.due("its letters", x.word(0, 1), 12);
        Check.due("a word of 1 letter", Feed.put(x, "z").store(0), 1);
        Check.due("its letters", x.word(1, 1), 1);
    }

    /** ... letters a to z. */
    private static void wordOfLettersAToZ() {
        isWord("the byte before a", "`", false);
        isWord("a", "a", true);
        isWord("z", "z", true);
        isWord("the byte behind z", "{", false);
        isWord("A", "A", false);
        isWord("a with the highest bit", "\u00e1", false);
        PieceDeposits x = Feed.book("book 0 0 1 0 0;user a 9;");
        Feed.put(x, "az").store(0);
        Check.due("a is 0", x.wordLetter(0, 0), 0);
        Check.due("z is 25", x.wordLetter(0, 1), 25);
    }

    /** Bytes 32 may stand behind them. */
    private static void wordWithBytes32Behind() {
        isWord("no space behind", "abcdefghijkl", true);
        isWord("19 spaces", "a" + " ".repeat(19), true);
        isWord("588 spaces", "abcdefghijkl" + " ".repeat(588), true);
        isWord("599 spaces", "a" + " ".repeat(599), true);
        for (int sign = 0; sign < 256; sign++) {
            String one = String.valueOf((char) sign);
            boolean letter = sign >= 'a' && sign <= 'z';
            isWord("byte " + sign + " behind a letter", "a" + one, letter || sign == 32);
            isWord("byte " + sign + " behind a space", "a " + one, sign == 32);
            isWord("byte " + sign + " at the end of 20", "a" + " ".repeat(18) + one, sign == 32);
        }
        isWord("a letter at the end of 600", "a" + " ".repeat(598) + "a", false);
        isWord("a line feed at the end of 600", "a" + " ".repeat(598) + "\n", false);
    }

    /** A word is read up to the end of the buffer, and not with what stood there before. */
    private static void wordThatFillsTheBuffer() {
        PieceDeposits x = new PieceDeposits();
        Feed.put(x, "x".repeat(MOST_BYTES));
        Check.due("no word", x.quote(0), NONE);
        Feed.put(x, "abcdefghijkl");
        Check.due("a word", x.quote(3), 2);
        Check.due("no word", x.quote(3), NONE);
        Feed.put(x, "ab");
        Check.due("a shorter word", x.quote(3), 1);
    }

    /** With anything else in it there is no word. */
    private static void wordWithAnythingElse() {
        for (int sign = 0; sign < 256; sign++) {
            String one = String.valueOf((char) sign);
            boolean letter = sign >= 'a' && sign <= 'z';
            isWord("byte " + sign + " before a letter", one + "a", letter);
            isWord("byte " + sign + " alone", one, letter);
            isWord("byte " + sign + " between letters", "a" + one + "a", letter);
        }
        isWord("a semicolon", "a;", false);
        isWord("two words", "a b", false);
    }

    /** The buffer is empty afterwards: of each method that reads a word. */
    private static void emptyAfterAnAnswer() {
        emptied("find", x -> x.find(1), 0);
        emptied("find", x -> x.find(0), NONE);
        emptied("quote", x -> x.quote(3), 1);
        emptied("whyNotStore", x -> x.whyNotStore(0), 0);
        emptied("store", x -> x.store(0), 0);
        PieceDeposits x = Sample.withoutChanges();
        Check.due("bring", Feed.put(x, "abc").bring(0), 2);
        Check.due("bring: empty then", Feed.append(x, BLANKS), 20);
    }

    private static void emptied(String what, Refusal.Use use, int due) {
        PieceDeposits x = Feed.put(Sample.withoutChanges(), "ab");
        Check.due(what, use.of(x), due);
        Check.due(what + ": empty then", Feed.append(x, BLANKS), 20);
        Feed.put(x, " ".repeat(MOST_BYTES - 20));
        Check.due(what + ": full", Feed.append(x, BLANKS), NONE);
    }

    private static void emptyAfterNoWord() {
        PieceDeposits x = Feed.put(Sample.withoutChanges(), "a b");
        Check.due("find", x.find(1), NONE);
        Check.due("find: empty then", Feed.append(x, "ab." + " ".repeat(17)), 20);
        Check.due("quote", x.quote(0), NONE);
        Check.due("quote: empty then", Feed.append(x, "  ab" + " ".repeat(16)), 20);
        Check.due("whyNotStore", x.whyNotStore(0), 1);
        Check.due("whyNotStore: empty then", Feed.append(x, BLANKS), 20);
    }

    /** Of the other methods none reads it: it stays as it is. */
    private static void otherCallsLeaveTheBuffer() {
        PieceDeposits x = Feed.put(Sample.rich(), "xyz");
        for (int what = 0; what < 12; what++) {
            x.size(what);
        }
        x.user(0, 0);
        x.piece(0, 0);
        x.pieceLetter(0, 0);
        x.word(0, 0);
        x.wordLetter(0, 0);
        x.part(0, 0);
        x.errorPosition();
        x.ways(0);
        x.fewest(0);
        x.saving(0);
        x.bestPart(0, 0);
        x.shared(0, 1);
        x.favourite();
        x.richest();
        x.isWhole();
        x.account(0);
        x.recut(0);
        x.recutAll();
        x.remove(0);
        x.tick(1);
        x.pay(0, 1, 1);
        x.undo();
        x.saveSnapshot(0);
        x.restoreSnapshot(0);
        Check.due("one more append", Feed.append(x, BLANKS), 40);
        Check.due("the word is there", x.find(1), 2);
    }

    /** An object is used for at most 512 calls: the last of them is answered as all are. */
    private static void the512thCall() {
        PieceDeposits x = new PieceDeposits();
        for (int call = 1; call < 512; call++) {
            x.tick(30);
        }
        Check.due("the time", x.size(3), 511 * 30);
        PieceDeposits y = new PieceDeposits();
        for (int call = 1; call < 512; call++) {
            y.tick(1);
        }
        Check.due("undo", y.undo(), 9);
    }
}
