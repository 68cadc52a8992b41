/** The boundaries of a text: its tokens, its grammar, its limits, and its errors (promises 3, 4). */
final class TextEdgeTest {
    private static final int NONE = PieceDeposits.NONE;
    private static final String BOOK = "book 0 0 1 0 0;";
    /** A whole text; each word and number of it has one meaning only where it stands. */
    private static final String[] TOKENS = {"book", "1", "2", "3", "4", "5", ";",
        "user", "a", "99", ";", "piece", "b", ";", "word", "a", "b", ";"};

    private TextEdgeTest() {
    }

    static void run() {
        bytesBetweenTokens();
        bytesInAName();
        bytesInANumber();
        bytesForASemicolon();
        blanksAnywhere();
        wordsOf1To12Letters();
        numbersOf1To4Digits();
        grammarEachPlace();
        grammarOneTokenMore();
        endsTooEarlyAtEachToken();
        endsTooEarlyAtEachByte();
        endsTooEarlyWithBlanks();
        nameIsAnyWord();
        settingsInTheirRange();
        coinsInTheirRange();
        userIsAnEarlierOne();
        namesAreDifferent();
        piecesAreDifferent();
        pieceOf1To6Letters();
        pieceOfTheHouse();
        atMost4Users();
        atMost24Pieces();
        atMost24PiecesWithThoseOfWords();
        atMost16Words();
        wordIsStoredAsStoreDoes();
        wordMustBePaid();
        wordNeedsRoomForItsPieces();
        smallestPositionFirst();
        smallestCodeFirst();
        promise3NothingOfTheOldBook();
        promise3ErrorChangesNothing();
        promise4OnlyCallsThatDoNotThrow();
    }

    private static void fine(String text) {
        PieceDeposits x = new PieceDeposits();
        Check.due("parse of " + text, Feed.parse(x, text), 0);
        Check.due("no position in " + text, x.errorPosition(), NONE);
    }

    private static void error(String text, int code, int position) {
        PieceDeposits x = new PieceDeposits();
        Check.due("parse of " + text, Feed.parse(x, text), code);
        Check.due("position in " + text, x.errorPosition(), position);
    }

    private static void dueIf(String text, boolean isFine, int code, int position) {
        if (isFine) {
            fine(text);
        } else {
            error(text, code, position);
        }
    }

    // ---- tokens

    /** Spaces (byte 32) and line feeds (byte 10) separate tokens, and no other byte does. */
    private static void bytesBetweenTokens() {
        for (int sign = 0; sign < 256; sign++) {
            String text = "book 0 0 1 0 0" + (char) sign + ";";
            boolean digit = sign >= '0' && sign <= '9';
            dueIf(text, sign == 32 || sign == 10 || digit, 1, sign == ';' ? 15 : 14);
            String before = (char) sign + "book 0 0 1 0 0;";
            dueIf(before, sign == 32 || sign == 10, 1, 0);
            dueIf(BOOK + (char) sign, sign == 32 || sign == 10, 1, 15);
        }
    }

    /** A word is a run of letters a to z: bytes 97 to 122. */
    private static void bytesInAName() {
        for (int sign = 0; sign < 256; sign++) {
            boolean letter = sign >= 97 && sign <= 122;
            boolean blank = sign == 32 || sign == 10;
            dueIf(BOOK + "user " + (char) sign + " 1;", letter, 1, blank ? 22 : 20);
            String text = BOOK + "user q" + (char) sign + "1;";
            boolean digit = sign >= '0' && sign <= '9';
            dueIf(text, letter || blank || digit, 1, 21);
        }
    }

    /** A number is a run of digits: bytes 48 to 57. */
    private static void bytesInANumber() {
        for (int sign = 0; sign < 256; sign++) {
            boolean digit = sign >= 48 && sign <= 57;
            boolean blank = sign == 32 || sign == 10;
            dueIf(BOOK + "user q " + (char) sign + ";", digit, 1, blank ? 23 : 22);
        }
        for (char digit = '0'; digit <= '9'; digit++) {
            PieceDeposits x = Feed.book(BOOK + "user q 1" + digit + "2" + digit + ";");
            Check.due("coins", x.user(0, 0), 1020 + (digit - '0') * 101);
        }
    }

    private static void bytesForASemicolon() {
        for (int sign = 0; sign < 256; sign++) {
            boolean none = sign == 32 || sign == 10 || sign >= '0' && sign <= '9';
            dueIf("book 0 0 1 0 0" + (char) sign, sign == 59, 1, none ? 15 : 14);
        }
    }

    /** ... and are otherwise ignored; where tokens differ in kind, they need none. */
    private static void blanksAnywhere() {
        fine("book0 0 1 0 0;user a1;piece b;word a b;");
        fine(" \n \nbook\n0 \n 0\n\n1 0\n0 ;\nuser\na\n1\n;\npiece\nb\n;\nword\na\nb\n;\n \n");
        error("bo ok 0 0 1 0 0;", 1, 0);
        error("book 0 0 1 0;", 1, 12);
        error("book 0 0 1 00;", 1, 13);
        error(BOOK + "usera 1;", 1, 15);
        error(BOOK + "user a 1 2;", 1, 24);
        error(BOOK + "piece ab cd;", 1, 24);
        PieceDeposits x = Feed.book(BOOK + "user a 1\n;piece b\n;");
        Check.due("coins", x.user(0, 0), 1);
        Check.dueText("piece", Feed.piece(x, 0), "b");
    }

    /** 1 to 12 letters; a longer run is an invalid token. */
    private static void wordsOf1To12Letters() {
        String[] names = {"a", "abcdefghijk", "abcdefghijkl"};
        for (String name : names) {
            fine(BOOK + "user " + name + " 5;word " + name + " " + name + ";");
        }
        for (int letters = 13; letters <= 26; letters++) {
            String run = Sample.ALPHABET.substring(0, letters);
            error(BOOK + "user " + run + " 5;", 1, 20);
            error(BOOK + "piece " + run + ";", 1, 21);
            error(BOOK + "user a 5;word " + run + " b;", 1, 29);
            error(BOOK + "user a 5;word a " + run + ";", 1, 31);
            error(run + " 0 0 1 0 0;", 1, 0);
            error(BOOK + run, 1, 15);
        }
        error("a".repeat(600), 1, 0);
        PieceDeposits x = Feed.book(BOOK + "user abcdefghijkl 5;user abcdefghijk 6;");
        Check.due("12 letters", Feed.put(x, "abcdefghijkl").find(0), 0);
        Check.due("11 letters", Feed.put(x, "abcdefghijk").find(0), 1);
    }

    /** 1 to 4 digits; a longer run is an invalid token, whatever its value. */
    private static void numbersOf1To4Digits() {
        String[] sevens = {"7", "07", "007", "0007"};
        for (String seven : sevens) {
            PieceDeposits x = Feed.book("book " + seven + " 0 1 0 0;user a " + seven + ";");
            Check.due("price", x.size(6), 7);
            Check.due("coins", x.user(0, 0), 7);
        }
        error("book 00007 0 1 0 0;", 1, 5);
        error("book 0 0 00001 0 0;", 1, 9);
        error(BOOK + "user a 00007;", 1, 22);
        error(BOOK + "user a 00000;", 1, 22);
        error(BOOK + "user a 4294967297;", 1, 22);
        error(BOOK + "user a " + "1".repeat(500) + ";", 1, 22);
        fine("book 0000 0000 0001 0000 0000;user a 0000;");
    }

    // ---- the grammar

    /** Joins the tokens before one and puts another token in its place. */
    private static String upTo(int place, String token) {
        StringBuilder text = new StringBuilder();
        for (int i = 0; i < place; i++) {
            text.append(TOKENS[i]).append(' ');
        }
        return text.append(token).toString();
    }

    /** A token that the grammar does not allow at this place. */
    private static void grammarEachPlace() {
        fine(upTo(TOKENS.length, ""));
        String[] others = {"zz", "1", ";", "#", "Z", "-", "abcdefghijklm", "12345"};
        for (int place = 0; place < TOKENS.length; place++) {
            int position = upTo(place, "").length();
            boolean isName = place == 8 || place == 12 || place == 15 || place == 16;
            boolean isNumber = place >= 1 && place <= 5 || place == 9;
            for (String other : others) {
                boolean allowed = other.equals("zz") && isName || other.equals("1") && isNumber
                        || other.equals(TOKENS[place]);
                if (!allowed) {
                    error(upTo(place, other) + " ;", 1, position);
                }
            }
        }
    }

    /** Between two tokens of the text there is no place for one more. */
    private static void grammarOneTokenMore() {
        error("book book 0 0 1 0 0;", 1, 5);
        error("book 0 0 1 0 0 0;", 1, 15);
        error("book 0 0 1 0 0;;", 1, 15);
        error(BOOK + "user user a 1;", 1, 25);
        error(BOOK + "user a 1 1;", 1, 24);
        error(BOOK + "user a 1;;", 1, 24);
        error(BOOK + "piece piece a;", 1, 27);
        error(BOOK + "piece a;;", 1, 23);
        error(BOOK + "user a 1;word a b c;", 1, 33);
        error(BOOK + "user a 1;word a b;;", 1, 33);
        error(BOOK + BOOK, 1, 15);
        error("look 0 0 1 0 0;", 1, 0);
        error(BOOK + "tser a 1;", 1, 15);
        error(BOOK + "niece a;", 1, 15);
        error(BOOK + "lord a b;", 1, 15);
        error(BOOK + "use a 1;", 1, 15);
        error(BOOK + "users a 1;", 1, 15);
        error(BOOK + "piec a;", 1, 15);
        error(BOOK + "pieces a;", 1, 15);
        error(BOOK + "wor a b;", 1, 15);
        error(BOOK + "words a b;", 1, 15);
        error("boo 0 0 1 0 0;", 1, 0);
        error("books 0 0 1 0 0;", 1, 0);
    }

    /** If the text ends too early, the position is the length of the text. */
    private static void endsTooEarlyAtEachToken() {
        for (int place = 0; place < TOKENS.length; place++) {
            String text = upTo(place, "");
            boolean whole = place == 7 || place == 11 || place == 14;
            dueIf(text, whole, 1, text.length());
        }
    }

    private static void endsTooEarlyAtEachByte() {
        String text = "book 1 2 3 4 5;user a 9;piece b;word a b;";
        int[] starts = {0, 15, 24, 32};
        int[] ends = {4, 19, 29, 36};
        for (int length = 0; length < text.length(); length++) {
            int position = length;
            for (int keyword = 0; keyword < starts.length; keyword++) {
                // A part of a keyword is a word that the grammar does not allow there.
                if (length > starts[keyword] && length < ends[keyword]) {
                    position = starts[keyword];
                }
            }
            boolean whole = length == 15 || length == 24 || length == 32;
            dueIf(text.substring(0, length), whole, 1, position);
        }
        fine(text);
    }

    private static void endsTooEarlyWithBlanks() {
        error("", 1, 0);
        error(" ", 1, 1);
        error("\n", 1, 1);
        error(" \n ", 1, 3);
        error("book 0 0 1 0 0 \n", 1, 16);
        error(BOOK + "user \n\n", 1, 22);
        error(BOOK + "piece b ", 1, 23);
        error(" ".repeat(600), 1, 600);
        error("\n".repeat(599), 1, 599);
    }

    /** name is any word: those of the grammar, too. */
    private static void nameIsAnyWord() {
        fine(BOOK + "user book 9;user user 9;user piece 9;user word 9;piece user;piece piece;"
                + "piece word;piece book;word word word;word user user;word piece piece;"
                + "word book book;");
    }

    // ---- numbers in their ranges

    private static String header(int setting, String value) {
        String[] values = {"0", "0", "1", "0", "0"};
        values[setting] = value;
        return "book " + String.join(" ", values) + ";";
    }

    /** price is 0 to 99, letter 0 to 9, deposit 1 to 9, keep 0 to 20, refund 0 to 100. */
    private static void settingsInTheirRange() {
        int[] least = {0, 0, 1, 0, 0};
        int[] most = {99, 9, 9, 20, 100};
        for (int setting = 0; setting < 5; setting++) {
            for (int value = 0; value <= 130; value++) {
                String text = header(setting, Integer.toString(value));
                boolean inRange = value >= least[setting] && value <= most[setting];
                dueIf(text, inRange, 3, 5 + 2 * setting);
                if (inRange) {
                    Check.due("setting " + setting, Feed.book(text).size(6 + setting), value);
                }
            }
            error(header(setting, "9999"), 3, 5 + 2 * setting);
            error(header(setting, "10000"), 1, 5 + 2 * setting);
            error(header(setting, "-1"), 1, 5 + 2 * setting);
        }
    }

    /** coins 0 to 9999: all numbers that can be written. */
    private static void coinsInTheirRange() {
        int[] all = {0, 1, 9, 10, 99, 100, 999, 1000, 9998, 9999};
        for (int coins : all) {
            Check.due("coins", Feed.book(BOOK + "user a " + coins + ";").user(0, 0), coins);
        }
        error(BOOK + "user a 10000;", 1, 22);
        error(BOOK + "user a -1;", 1, 22);
    }

    // ---- users, pieces, words

    /** user is a word that is the name of an earlier user. */
    private static void userIsAnEarlierOne() {
        String two = BOOK + "user ab 9;user b 9;";
        fine(two + "word ab z;");
        fine(two + "word b z;");
        error(two + "word a z;", 4, 39);
        error(two + "word abc z;", 4, 39);
        error(two + "word z z;", 4, 39);
        error(two + "word abcdefghijkl z;", 4, 39);
        error(BOOK + "word ab z;user ab 9;", 4, 20);
        error(BOOK + "user b 9;word ab z;user ab 9;", 4, 29);
        error(BOOK + "piece ab;word ab z;", 4, 29);
    }

    /** 2: a name that an earlier user has. */
    private static void namesAreDifferent() {
        error(BOOK + "user ab 1;user ab 1;", 2, 30);
        error(BOOK + "user ab 1;user b 1;user c 1;user ab 2;", 2, 48);
        error(BOOK + "user ab 1;user b 1;user b 2;", 2, 39);
        error(BOOK + "user abcdefghijkl 1;user abcdefghijkl 1;", 2, 40);
        fine(BOOK + "user ab 1;user a 1;user abc 1;user b 1;");
        fine(BOOK + "piece ab;user ab 1;word ab ab;");
        fine(BOOK + "user abcdefghijkl 1;user abcdefghijk 1;user abcdefghijkm 1;");
    }

    /** 2: a piece that is in the book already. */
    private static void piecesAreDifferent() {
        error(BOOK + "piece ab;piece ab;", 2, 30);
        error(BOOK + "piece a;piece b;piece c;piece a;", 2, 45);
        error(BOOK + "piece a;piece b;piece b;", 2, 37);
        error(BOOK + "piece abcdef;piece abcdef;", 2, 34);
        fine(BOOK + "piece ab;piece a;piece b;piece ba;piece abc;piece abcdef;piece abcdee;");
        fine(BOOK + "user ab 1;piece ab;");
        // A piece that came into the book by a word is in it, too; the word itself is none.
        error(BOOK + "user u 99;word u ab;piece ab;", 2, 41);
        error(BOOK + "user u 99;word u abcdefg;piece g;", 2, 46);
        fine(BOOK + "user u 99;word u abcdefg;piece fg;piece a;");
    }

    /** A piece has 1 to 6 letters; 3: a piece of more than 6 letters. */
    private static void pieceOf1To6Letters() {
        for (int letters = 1; letters <= 12; letters++) {
            String text = BOOK + "piece " + Sample.ALPHABET.substring(0, letters) + ";";
            dueIf(text, letters <= 6, 3, 21);
        }
        error(BOOK + "piece abcdefghijklm;", 1, 21);
    }

    /** "piece" tells a piece of the house: it has neither an owner nor a price. */
    private static void pieceOfTheHouse() {
        PieceDeposits x = Feed.book("book 99 9 9 0 100;user a 1;piece abcdef;");
        Check.due("its price", x.piece(0, 1), 0);
        Check.due("its owner", x.piece(0, 2), NONE);
        Check.due("its uses", x.piece(0, 3), 0);
        Check.due("idle since", x.piece(0, 4), 0);
        Check.due("nobody paid", x.user(0, 0), 1);
        Check.due("the chest", x.size(4), 0);
        Check.due("it came for no price", x.account(4), 0);
    }

    /** 5: the first word of the statement of a fifth user. */
    private static void atMost4Users() {
        String[] names = {"a", "b", "c", "d"};
        StringBuilder text = new StringBuilder(BOOK);
        for (int users = 0; users < 4; users++) {
            Check.due("users", Feed.book(text.toString()).size(0), users);
            text.append("user ").append(names[users]).append(" 1;");
        }
        Check.due("users", Feed.book(text.toString()).size(0), 4);
        error(text + "user e 1;", 5, 51);
        error(text + "user a 1;", 5, 51);
        error(text + "user e", 5, 51);
        error(text + "user", 5, 51);
        error(text + "use e 1;", 1, 51);
        error(text + "piece x;user e 1;", 5, 59);
        fine(text + "piece x;word d x;");
    }

    /** 5: the first word of the statement of a 25th piece. */
    private static void atMost24Pieces() {
        for (int pieces = 22; pieces <= 24; pieces++) {
            Check.due("pieces", Feed.book(BOOK + Sample.pieces(pieces)).size(1), pieces);
        }
        String full = BOOK + Sample.pieces(24);
        error(full + "piece y;", 5, full.length());
        error(full + "piece a;", 5, full.length());
        error(full + "piece abcdefg;", 5, full.length());
        error(full + "piece ;", 5, full.length());
        error(full + "piece", 5, full.length());
        error(full + "pieces y;", 1, full.length());
        fine(full + "user u 2;word u a;");
    }

    /** ... of all that are in the book. */
    private static void atMost24PiecesWithThoseOfWords() {
        // The words bring yyyyyy, z and zzzzzz, the first of them in two uses.
        String start = BOOK + "user u 99;word u yyyyyyyyyyyy;word u zzzzzzz;";
        Check.due("pieces", Feed.book(start).size(1), 3);
        Check.due("pieces", Feed.book(start + Sample.pieces(20)).size(1), 23);
        String full = start + Sample.pieces(21);
        Check.due("pieces", Feed.book(full).size(1), 24);
        error(full + "piece x;", 5, full.length());
        String nearly = BOOK + "user u 99;" + Sample.pieces(23);
        Check.due("pieces", Feed.book(nearly + "word u y;").size(1), 24);
        error(nearly + "word u y;piece z;", 5, nearly.length() + 9);
    }

    /** 5: the first word of the statement of a 17th word. */
    private static void atMost16Words() {
        String start = BOOK + "user u 99;piece a;";
        for (int words = 14; words <= 16; words++) {
            Check.due("words", Feed.book(start + Sample.words(words)).size(2), words);
        }
        String full = start + Sample.words(16);
        error(full + "word u a;", 5, full.length());
        error(full + "word z a;", 5, full.length());
        error(full + "word u", 5, full.length());
        error(full + "word", 5, full.length());
        error(full + "words", 1, full.length());
        fine(full + "piece b;user v 1;");
    }

    /** "word" stores a word, as store does at that point of the text, and the user pays for it. */
    private static void wordIsStoredAsStoreDoes() {
        PieceDeposits x = Feed.book("book 5 0 1 0 0;user u 50;user v 40;piece ab;word u abc;"
                + "piece c;word v abc;word u ccc;");
        PieceDeposits y = Feed.book("book 5 0 1 0 0;user u 50;user v 40;piece ab;");
        Feed.put(y, "abc").store(0);
        Check.dueText("stored by store", Feed.cutting(y, 0), "abc");
        // The piece c, with which ab.c would be cheaper, comes later.
        Check.dueText("the first cutting", Feed.cutting(x, 0), "abc");
        Check.due("its price", x.piece(1, 1), 5);
        Check.due("its owner", x.piece(1, 2), 0);
        Check.dueText("the second cutting", Feed.cutting(x, 1), "abc");
        Check.dueText("the third cutting", Feed.cutting(x, 2), "c.c.c");
        Check.due("u paid", x.user(0, 0), 50 - 6 - 3);
        Check.due("v paid", x.user(1, 0), 39);
        Check.due("the chest", x.size(4), 5);
        Check.due("the fund", x.size(5), 5);
        Check.due("no change", x.size(11), 0);
    }

    /** 6: the word that is stored, if its user cannot pay for it. */
    private static void wordMustBePaid() {
        // A new piece of one letter costs 7 + 2, its use 3.
        String[] codes = {"11", "12", "13"};
        for (String coins : codes) {
            String text = "book 7 2 3 0 0;user u " + coins + ";word u x;";
            dueIf(text, !coins.equals("11"), 6, 32);
        }
        error("book 7 2 3 0 0;user v 99;user u 11;word u x;", 6, 42);
        fine("book 7 2 3 0 0;user v 0;user u 12;word u x;");
        // Of known pieces the deposits alone are paid.
        error("book 7 2 3 0 0;user u 5;piece x;word u xx;", 6, 39);
        fine("book 7 2 3 0 0;user u 6;piece x;word u xx;");
        // What was paid for an earlier word is gone.
        error("book 7 2 3 0 0;user u 14;word u x;word u x;", 6, 41);
        fine("book 7 2 3 0 0;user u 15;word u x;word u x;");
        // A new piece that occurs twice is paid once: 7 + 12 and two deposits.
        error("book 7 2 3 0 0;user u 24;word u xxxxxxxxxxxx;", 6, 32);
        fine("book 7 2 3 0 0;user u 25;word u xxxxxxxxxxxx;");
    }

    /** 6: ... or if there would be more than 24 pieces. */
    private static void wordNeedsRoomForItsPieces() {
        String start = BOOK + "user u 99;";
        int ahead = start.length();
        fine(start + Sample.pieces(22) + "word u yyyyyyzzzzzz;");
        error(start + Sample.pieces(23) + "word u yyyyyyzzzzzz;", 6, ahead + 23 * 8 + 7);
        fine(start + Sample.pieces(23) + "word u yyyyyyyyyyyy;");
        fine(start + Sample.pieces(23) + "word u zzzzzz;");
        error(start + Sample.pieces(24) + "word u zzzzzz;", 6, ahead + 24 * 8 + 7);
        error(start + Sample.pieces(24) + "word u az;", 6, ahead + 24 * 8 + 7);
        // The deposit 1 and the price 0: two letters of the book cost more than a new piece.
        error(start + Sample.pieces(24) + "word u ab;", 6, ahead + 24 * 8 + 7);
        fine(start + Sample.pieces(24) + "word u a;");
    }

    // ---- errors

    /** The error with the smallest position is reported. */
    private static void smallestPositionFirst() {
        error("book 100 0 0 0 0#", 3, 5);
        error("book 0 0 0 0 101;", 3, 9);
        error(BOOK + "piece abcdefg;#", 3, 21);
        error(BOOK + "piece abcdefg", 3, 21);
        error(BOOK + "piece a;piece a#", 2, 29);
        error(BOOK + "user a 1;user a 10000;", 2, 29);
        error(BOOK + "user a 10000;user a 1;", 1, 22);
        error(BOOK + "word a #", 4, 20);
        error("book 9 0 1 0 0;user a 1;word a b#", 6, 31);
        error("book 9 0 1 0 0;user a 1;word a b;word b c;", 6, 31);
        error("book 9 0 1 0 0;user a 1;word b b;word a c;", 4, 29);
        error(BOOK + "user a 1;user b 1;user c 1;user d 1;user # 1;", 5, 51);
    }

    /** If several codes apply at one position, the smallest is reported. */
    private static void smallestCodeFirst() {
        // 1 before 3: a number that is too long is out of its range, too.
        error("book 10000 0 1 0 0;", 1, 5);
        error(BOOK + "piece abcdefghijklm;", 1, 21);
        // 1 before 4: no user has such a name.
        error(BOOK + "word abcdefghijklm a;", 1, 20);
        error(BOOK + "word 7 a;", 1, 20);
        // 1 before 6: nobody could pay for it.
        error("book 9 9 9 0 0;user a 0;word a abcdefghijklm;", 1, 31);
        // 1 before 5: such a statement the grammar does not allow.
        error(BOOK + Sample.pieces(24) + "pieced y;", 1, 15 + 24 * 8);
        error(BOOK + Sample.pieces(24) + "piecepiecepie y;", 1, 15 + 24 * 8);
    }

    /** On success the described book replaces the current one. */
    private static void promise3NothingOfTheOldBook() {
        String text = "book 1 0 2 3 4;user ann 5;piece ab;word ann abab;";
        PieceDeposits x = Sample.rich();
        Check.due("parse", Feed.parse(x, text), 0);
        Check.dueText("the new book alone", Refusal.allOf(x), Refusal.allOf(Feed.book(text)));
        PieceDeposits y = Sample.rich();
        Check.due("parse", Feed.parse(y, BOOK), 0);
        Check.dueText("an empty book", Refusal.allOf(y), Refusal.allOf(new PieceDeposits()));
    }

    /** On a parse error nothing changes except that the whole buffer is emptied. */
    private static void promise3ErrorChangesNothing() {
        String[] texts = {"book 9 9 9 9 9;user", "book 9 9 9 9 9;used",
            "book 8 8 8 8 8;user z 5;user z 6;", "book 8 8 8 8 88;piece abcdefg;",
            "book 8 8 8 8 8;user z 99;word y a;", "book 0 0 1 0 0;" + Sample.pieces(25),
            "book 8 8 8 8 8;user z 70;piece z;word z zz;word z abcdef;"};
        int[] codes = {1, 1, 2, 3, 4, 5, 6};
        int[] positions = {19, 15, 29, 22, 30, 207, 50};
        for (int i = 0; i < texts.length; i++) {
            PieceDeposits x = Sample.rich();
            Check.due("parse of " + texts[i], Feed.parse(x, texts[i]), codes[i]);
            Check.due("position", x.errorPosition(), positions[i]);
            // The position is told by promise 4: the rich one's own is 19.
            Feed.parse(x, texts[0]);
            Check.dueText("nothing changes by " + texts[i], Refusal.allOf(x),
                    Refusal.allOf(Sample.rich()));
        }
    }

    /** Of the last call of parse that did not throw an exception. */
    private static void promise4OnlyCallsThatDoNotThrow() {
        PieceDeposits x = new PieceDeposits();
        Check.badArgument("parse(-1)", () -> x.parse(-1));
        Check.due("there was none", x.errorPosition(), NONE);
        Check.due("an error", Feed.parse(x, "#"), 1);
        Check.due("at 0", x.errorPosition(), 0);
        Check.badArgument("parse(1)", () -> x.parse(1));
        Check.due("still at 0", x.errorPosition(), 0);
        Check.due("an error", Feed.parse(x, " #"), 1);
        Check.due("at 1", x.errorPosition(), 1);
        Check.due("a success", Feed.parse(x, BOOK), 0);
        Check.due("none", x.errorPosition(), NONE);
        Check.badArgument("parse(-1)", () -> x.parse(-1));
        Check.due("still none", x.errorPosition(), NONE);
        x.saveSnapshot(0);
        x.tick(1);
        Check.due("an error", Feed.parse(x, "book 0 0 0"), 3);
        x.undo();
        Check.due("undo leaves it", x.errorPosition(), 9);
        x.restoreSnapshot(0);
        Check.due("a snapshot leaves it", x.errorPosition(), 9);
    }
}
