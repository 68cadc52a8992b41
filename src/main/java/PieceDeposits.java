import java.util.Arrays;

/** Words that are cut into pieces of a shared book. ../shared/DOC.md tells what each call does. */
public final class PieceDeposits {
    public static final int NONE = -1;

    private static final int MAX_BYTES = 600;
    private static final int APPENDED_BYTES = 20;
    private static final int MAX_USERS = 4;
    private static final int MAX_PIECES = 24;
    private static final int MAX_WORDS = 16;
    private static final int WORD_LETTERS = 12;
    private static final int PIECE_LETTERS = 6;
    private static final int MAX_CHANGES = 10;
    private static final int SLOTS = 2;
    private static final int MAX_TICKS = 30;
    private static final int MAX_COINS = 9999;
    private static final int SPACE = 32;
    private static final int LINE_FEED = 10;

    // The settings of a book, in the order of its text.
    private static final int PRICE = 0;
    private static final int LETTER = 1;
    private static final int DEPOSIT = 2;
    private static final int KEEP = 3;
    private static final int REFUND = 4;
    private static final int SETTINGS = 5;
    private static final int[] LEAST_SETTING = {0, 0, 1, 0, 0};
    private static final int[] MOST_SETTING = {99, 9, 9, 20, 100};

    // The sums of account().
    private static final int PRICES_PAID = 0;
    private static final int REFUNDS = 1;
    private static final int DEPOSITS_PAID = 2;
    private static final int DEPOSITS_BACK = 3;
    private static final int PIECES_CAME = 4;
    private static final int PIECES_WENT = 5;
    private static final int SUMS = 6;

    // Why a word is not stored.
    private static final int NO_REASON = 0;
    private static final int NO_WORD = 1;
    private static final int TOO_MANY_WORDS = 2;
    private static final int TOO_MANY_PIECES = 3;
    private static final int TOO_FEW_COINS = 4;

    private final byte[] buffer = new byte[MAX_BYTES];
    private int buffered = 0;
    private int lastErrorAt = NONE;
    private final Book book = new Book();
    private final Parser parser = new Parser();
    private final Cutter cutter = new Cutter();
    private final Adviser adviser = new Adviser();
    private final History history = new History();
    private final Book[] slots = {new Book(), new Book()};
    private final boolean[] filled = new boolean[SLOTS];

    public PieceDeposits() {
    }

    // ---- text

    public int append(int a, int b, int c, int d, int e) {
        if (buffered + APPENDED_BYTES > MAX_BYTES) {
            return NONE;
        }
        appendFour(a);
        appendFour(b);
        appendFour(c);
        appendFour(d);
        appendFour(e);
        return buffered;
    }

    public int parse(int length) throws IllegalArgumentException {
        if (length < 0 || length > buffered) {
            throw new IllegalArgumentException();
        }
        buffered = 0;
        int code = parser.readText(buffer, length);
        if (code != 0) {
            lastErrorAt = parser.errorAt;
            return code;
        }
        lastErrorAt = NONE;
        book.copyFrom(parser.draft);
        history.forget();
        for (int slot = 0; slot < SLOTS; slot++) {
            filled[slot] = false;
        }
        return 0;
    }

    public int errorPosition() {
        return lastErrorAt;
    }

    public int size(int what) throws IllegalArgumentException {
        switch (what) {
            case 0:
                return book.users.count;
            case 1:
                return book.pieces.count;
            case 2:
                return book.words.count;
            case 3:
                return book.time;
            case 4:
                return book.chest;
            case 5:
                return book.fund;
            case 6:
                return book.settings[PRICE];
            case 7:
                return book.settings[LETTER];
            case 8:
                return book.settings[DEPOSIT];
            case 9:
                return book.settings[KEEP];
            case 10:
                return book.settings[REFUND];
            case 11:
                return history.count;
            default:
                throw new IllegalArgumentException();
        }
    }

    public int find(int kind) throws IllegalArgumentException {
        long row = takeWord();
        requireBelow(kind, 3);
        if (row == 0) {
            return NONE;
        }
        if (kind == 0) {
            return book.users.numberOf(row);
        }
        return kind == 1 ? book.pieces.numberOf(row) : book.words.numberOf(row);
    }

    // ---- users, pieces, words

    public int user(int user, int what) throws IndexOutOfBoundsException, IllegalArgumentException {
        requireUser(user);
        switch (what) {
            case 0:
                return book.users.coinsOf(user);
            case 1:
                return book.words.countOf(user);
            case 2:
                return book.heldFor(user);
            case 3:
                return book.pieces.ownedBy(user);
            case 4:
                return book.pieces.pricesPaidBy(user);
            default:
                throw new IllegalArgumentException();
        }
    }

    public int piece(int piece, int what)
            throws IndexOutOfBoundsException, IllegalArgumentException {
        requirePiece(piece);
        switch (what) {
            case 0:
                return Letters.lengthOf(book.pieces.letters[piece]);
            case 1:
                return book.pieces.prices[piece];
            case 2:
                return book.pieces.owners[piece];
            case 3:
                return book.pieces.uses[piece];
            case 4:
                return book.pieces.uses[piece] > 0 ? NONE : book.pieces.idleSince[piece];
            default:
                throw new IllegalArgumentException();
        }
    }

    public int pieceLetter(int piece, int k) throws IndexOutOfBoundsException {
        requirePiece(piece);
        return Letters.letterAt(book.pieces.letters[piece], k);
    }

    public int word(int word, int what) throws IndexOutOfBoundsException, IllegalArgumentException {
        requireWord(word);
        switch (what) {
            case 0:
                return book.words.owners[word];
            case 1:
                return Letters.lengthOf(book.words.letters[word]);
            case 2:
                return book.words.partCounts[word];
            case 3:
                return book.depositsFor(book.words.partCounts[word]);
            default:
                throw new IllegalArgumentException();
        }
    }

    public int wordLetter(int word, int k) throws IndexOutOfBoundsException {
        requireWord(word);
        return Letters.letterAt(book.madeUp(word), k);
    }

    public int part(int word, int k) throws IndexOutOfBoundsException {
        requireWord(word);
        return book.words.partAt(word, k);
    }

    // ---- what would be; nothing changes but the buffer

    public int quote(int what) throws IllegalArgumentException {
        long row = takeWord();
        requireBelow(what, 5);
        if (row == 0) {
            return NONE;
        }
        cutter.cutCheapest(book, row);
        switch (what) {
            case 0:
                return book.costOf(cutter);
            case 1:
                return book.depositsFor(cutter.count);
            case 2:
                return cutter.newPrices;
            case 3:
                return cutter.count;
            default:
                return cutter.newPieces;
        }
    }

    public int whyNotStore(int user) throws IndexOutOfBoundsException {
        long row = takeWord();
        requireUser(user);
        if (row == 0) {
            return NO_WORD;
        }
        cutter.cutCheapest(book, row);
        return book.refusal(user, cutter);
    }

    public int ways(int word) throws IndexOutOfBoundsException {
        requireWord(word);
        return cutter.countWays(book, book.words.letters[word]);
    }

    public int fewest(int word) throws IndexOutOfBoundsException {
        requireWord(word);
        return fewestPieces(word);
    }

    public int saving(int word) throws IndexOutOfBoundsException {
        requireWord(word);
        return book.depositsFor(book.words.partCounts[word] - fewestPieces(word));
    }

    public int bestPart(int word, int what)
            throws IndexOutOfBoundsException, IllegalArgumentException {
        requireWord(word);
        requireBelow(what, 3);
        adviser.weighParts(book, book.words.letters[word]);
        if (adviser.gain == 0) {
            return NONE;
        }
        if (what == 0) {
            return adviser.start;
        }
        return what == 1 ? adviser.length : adviser.gain;
    }

    public int shared(int word, int other) throws IndexOutOfBoundsException {
        requireWord(word);
        requireWord(other);
        int both = 0;
        for (int piece = 0; piece < book.pieces.count; piece++) {
            if (book.words.usesIn(word, piece) > 0 && book.words.usesIn(other, piece) > 0) {
                both++;
            }
        }
        return both;
    }

    public int favourite() {
        return book.pieces.mostUsed();
    }

    public int richest() {
        int best = NONE;
        int most = NONE;
        for (int user = 0; user < book.users.count; user++) {
            int wealth = book.users.coinsOf(user) + book.heldFor(user);
            if (wealth > most) {
                most = wealth;
                best = user;
            }
        }
        return best;
    }

    public boolean isWhole() {
        return book.wordsAreMadeUp() && book.usesAreTrue() && book.fundIsTrue();
    }

    public int account(int what) throws IllegalArgumentException {
        requireBelow(what, SUMS);
        return book.sums[what];
    }

    // ---- changes

    public int store(int user)
            throws IndexOutOfBoundsException, IllegalArgumentException, IllegalStateException {
        long row = takeWord();
        requireUser(user);
        if (row == 0) {
            throw new IllegalArgumentException();
        }
        cutter.cutCheapest(book, row);
        if (book.refusal(user, cutter) != NO_REASON) {
            throw new IllegalStateException();
        }
        history.keep(book);
        return book.storeCutting(user, row, cutter);
    }

    public int remove(int word) throws IndexOutOfBoundsException {
        requireWord(word);
        history.keep(book);
        int user = book.words.owners[word];
        book.endWord(word);
        return book.users.coinsOf(user);
    }

    public int recut(int word) throws IndexOutOfBoundsException {
        requireWord(word);
        history.keep(book);
        return book.cutAnew(word, cutter);
    }

    public int recutAll() {
        history.keep(book);
        int back = 0;
        for (int word = 0; word < book.words.count; word++) {
            back += book.cutAnew(word, cutter);
        }
        return back;
    }

    public int bring(int user)
            throws IndexOutOfBoundsException, IllegalArgumentException, IllegalStateException {
        long row = takeWord();
        requireUser(user);
        int length = Letters.lengthOf(row);
        if (length == 0 || length > PIECE_LETTERS || book.pieces.numberOf(row) != NONE) {
            throw new IllegalArgumentException();
        }
        if (book.pieces.isFull() || book.users.coinsOf(user) < book.newPrice(length)) {
            throw new IllegalStateException();
        }
        history.keep(book);
        return book.buyPiece(user, row);
    }

    public int tick(int ticks) throws IllegalArgumentException {
        if (ticks < 1 || ticks > MAX_TICKS) {
            throw new IllegalArgumentException();
        }
        history.keep(book);
        int went = 0;
        for (int i = 0; i < ticks; i++) {
            went += book.passTick();
        }
        return went;
    }

    public int pay(int user, int other, int coins)
            throws IndexOutOfBoundsException, IllegalArgumentException, IllegalStateException {
        requireUser(user);
        requireUser(other);
        if (coins < 0 || coins > MAX_COINS) {
            throw new IllegalArgumentException();
        }
        if (book.users.coinsOf(user) < coins) {
            throw new IllegalStateException();
        }
        history.keep(book);
        book.users.give(user, -coins);
        book.users.give(other, coins);
        return book.users.coinsOf(other);
    }

    // ---- undo and snapshots

    public int undo() {
        if (history.count == 0) {
            return NONE;
        }
        history.takeBack(book);
        return history.count;
    }

    public boolean saveSnapshot(int slot) throws IndexOutOfBoundsException {
        requireSlot(slot);
        boolean earlier = filled[slot];
        slots[slot].copyFrom(book);
        filled[slot] = true;
        return earlier;
    }

    public int restoreSnapshot(int slot) throws IndexOutOfBoundsException, IllegalStateException {
        requireSlot(slot);
        if (!filled[slot]) {
            throw new IllegalStateException();
        }
        book.copyFrom(slots[slot]);
        history.forget();
        return book.words.count;
    }

    private void appendFour(int bytes) {
        for (int shift = 24; shift >= 0 && buffered < MAX_BYTES; shift -= 8) {
            buffer[buffered] = (byte) (bytes >>> shift);
            buffered++;
        }
    }

    /** Empties the buffer and returns the word that was in it, 0 if there was none. */
    private long takeWord() {
        int length = buffered;
        buffered = 0;
        int letters = 0;
        while (letters < length && Letters.isLetter(buffer[letters])) {
            letters++;
        }
        for (int i = letters; i < length; i++) {
            if (buffer[i] != SPACE) {
                return 0;
            }
        }
        return letters > WORD_LETTERS ? 0 : Letters.read(buffer, 0, letters);
    }

    private int fewestPieces(int word) {
        cutter.cutKnown(book, book.words.letters[word]);
        return cutter.count;
    }

    private void requireBelow(int what, int end) throws IllegalArgumentException {
        if (what < 0 || what >= end) {
            throw new IllegalArgumentException();
        }
    }

    private void requireUser(int user) throws IndexOutOfBoundsException {
        if (user < 0 || user >= book.users.count) {
            throw new IndexOutOfBoundsException();
        }
    }

    private void requirePiece(int piece) throws IndexOutOfBoundsException {
        if (piece < 0 || piece >= book.pieces.count) {
            throw new IndexOutOfBoundsException();
        }
    }

    private void requireWord(int word) throws IndexOutOfBoundsException {
        if (word < 0 || word >= book.words.count) {
            throw new IndexOutOfBoundsException();
        }
    }

    private void requireSlot(int slot) throws IndexOutOfBoundsException {
        if (slot < 0 || slot >= SLOTS) {
            throw new IndexOutOfBoundsException();
        }
    }

    /**
     * A row of up to 12 letters in one long: five bits a letter, the first letter lowest, 1 for a
     * to 26 for z, 0 behind the end. So equal rows are equal numbers, and the empty row is 0.
     */
    private static final class Letters {
        private static final int BITS = 5;
        private static final int MASK = 31;

        static boolean isLetter(byte sign) {
            return sign >= 'a' && sign <= 'z';
        }

        static long read(byte[] bytes, int from, int end) {
            long row = 0;
            for (int i = from; i < end; i++) {
                row |= (long) (bytes[i] - 'a' + 1) << BITS * (i - from);
            }
            return row;
        }

        static long join(long row, int k, long tail) {
            return row | (tail << BITS * k);
        }

        static int letterAt(long row, int k) {
            if (k < 0 || k >= WORD_LETTERS) {
                return NONE;
            }
            int code = (int) (row >>> BITS * k) & MASK;
            return code == 0 ? NONE : code - 1;
        }

        static int lengthOf(long row) {
            int length = 0;
            while (length < WORD_LETTERS && row >>> BITS * length != 0) {
                length++;
            }
            return length;
        }

        static long section(long row, int start, int length) {
            return (row >>> BITS * start) & ((1L << BITS * length) - 1);
        }

        static boolean spell(long row, String text) {
            for (int k = 0; k < text.length(); k++) {
                if (letterAt(row, k) != text.charAt(k) - 'a') {
                    return false;
                }
            }
            return lengthOf(row) == text.length();
        }
    }

    private static final class Users {
        int count = 0;
        private final long[] names = new long[MAX_USERS];
        private final int[] coins = new int[MAX_USERS];

        int numberOf(long name) {
            for (int user = 0; user < count; user++) {
                if (names[user] == name) {
                    return user;
                }
            }
            return NONE;
        }

        boolean isFull() {
            return count >= MAX_USERS;
        }

        void add(long name, int coinsOfUser) {
            if (count >= MAX_USERS) {
                return;
            }
            names[count] = name;
            coins[count] = coinsOfUser;
            count++;
        }

        int coinsOf(int user) {
            return user >= 0 && user < count ? coins[user] : 0;
        }

        /** A negative number takes coins. */
        void give(int user, int more) {
            if (user >= 0 && user < count) {
                coins[user] += more;
            }
        }

        void copyFrom(Users other) {
            count = other.count;
            System.arraycopy(other.names, 0, names, 0, count);
            System.arraycopy(other.coins, 0, coins, 0, count);
        }
    }

    private static final class Pieces {
        int count = 0;
        final long[] letters = new long[MAX_PIECES];
        final int[] prices = new int[MAX_PIECES];
        final int[] owners = new int[MAX_PIECES];
        final int[] uses = new int[MAX_PIECES];
        /** Says something only while the piece has no uses. */
        final int[] idleSince = new int[MAX_PIECES];

        int numberOf(long row) {
            for (int piece = 0; piece < count; piece++) {
                if (letters[piece] == row) {
                    return piece;
                }
            }
            return NONE;
        }

        boolean isFull() {
            return count >= MAX_PIECES;
        }

        int add(long row, int price, int owner, int time) {
            if (count >= MAX_PIECES) {
                return NONE;
            }
            letters[count] = row;
            prices[count] = price;
            owners[count] = owner;
            uses[count] = 0;
            idleSince[count] = time;
            count++;
            return count - 1;
        }

        void beginUse(int piece) {
            if (piece >= 0 && piece < count) {
                uses[piece]++;
            }
        }

        void endUse(int piece, int time) {
            if (piece >= 0 && piece < count) {
                uses[piece]--;
                if (uses[piece] == 0) {
                    idleSince[piece] = time;
                }
            }
        }

        boolean goesBack(int piece, int time, int keep) {
            return owners[piece] != NONE && uses[piece] == 0 && time - idleSince[piece] > keep;
        }

        void drop(int piece) {
            if (piece < 0 || piece >= count) {
                return;
            }
            count--;
            int behind = count - piece;
            System.arraycopy(letters, piece + 1, letters, piece, behind);
            System.arraycopy(prices, piece + 1, prices, piece, behind);
            System.arraycopy(owners, piece + 1, owners, piece, behind);
            System.arraycopy(uses, piece + 1, uses, piece, behind);
            System.arraycopy(idleSince, piece + 1, idleSince, piece, behind);
        }

        int ownedBy(int user) {
            int owned = 0;
            for (int piece = 0; piece < count; piece++) {
                if (owners[piece] == user) {
                    owned++;
                }
            }
            return owned;
        }

        int pricesPaidBy(int user) {
            int sum = 0;
            for (int piece = 0; piece < count; piece++) {
                if (owners[piece] == user) {
                    sum += prices[piece];
                }
            }
            return sum;
        }

        int mostUsed() {
            int best = NONE;
            int most = NONE;
            for (int piece = 0; piece < count; piece++) {
                if (uses[piece] > most) {
                    most = uses[piece];
                    best = piece;
                }
            }
            return best;
        }

        void copyFrom(Pieces other) {
            count = other.count;
            System.arraycopy(other.letters, 0, letters, 0, count);
            System.arraycopy(other.prices, 0, prices, 0, count);
            System.arraycopy(other.owners, 0, owners, 0, count);
            System.arraycopy(other.uses, 0, uses, 0, count);
            System.arraycopy(other.idleSince, 0, idleSince, 0, count);
        }
    }

    private static final class Words {
        int count = 0;
        final long[] letters = new long[MAX_WORDS];
        final int[] owners = new int[MAX_WORDS];
        final int[] partCounts = new int[MAX_WORDS];
        /** The pieces of the cuttings, WORD_LETTERS places for each word. */
        private final int[] parts = new int[MAX_WORDS * WORD_LETTERS];

        int numberOf(long row) {
            for (int word = 0; word < count; word++) {
                if (letters[word] == row) {
                    return word;
                }
            }
            return NONE;
        }

        boolean isFull() {
            return count >= MAX_WORDS;
        }

        int add(long row, int owner) {
            if (count >= MAX_WORDS) {
                return NONE;
            }
            letters[count] = row;
            owners[count] = owner;
            partCounts[count] = 0;
            count++;
            return count - 1;
        }

        void clearParts(int word) {
            if (word >= 0 && word < count) {
                partCounts[word] = 0;
            }
        }

        void addPart(int word, int piece) {
            if (word >= 0 && word < count && partCounts[word] < WORD_LETTERS) {
                parts[word * WORD_LETTERS + partCounts[word]] = piece;
                partCounts[word]++;
            }
        }

        int partAt(int word, int k) {
            if (word < 0 || word >= count || k < 0 || k >= partCounts[word]) {
                return NONE;
            }
            return parts[word * WORD_LETTERS + k];
        }

        int usesIn(int word, int piece) {
            int uses = 0;
            for (int k = 0; k < partCounts[word]; k++) {
                if (partAt(word, k) == piece) {
                    uses++;
                }
            }
            return uses;
        }

        int countOf(int user) {
            int number = 0;
            for (int word = 0; word < count; word++) {
                if (owners[word] == user) {
                    number++;
                }
            }
            return number;
        }

        /** The pieces behind one that has left the book have numbers that are less by 1. */
        void closeGap(int piece) {
            for (int place = 0; place < count * WORD_LETTERS; place++) {
                if (parts[place] > piece) {
                    parts[place]--;
                }
            }
        }

        void drop(int word) {
            if (word < 0 || word >= count) {
                return;
            }
            count--;
            int behind = count - word;
            System.arraycopy(letters, word + 1, letters, word, behind);
            System.arraycopy(owners, word + 1, owners, word, behind);
            System.arraycopy(partCounts, word + 1, partCounts, word, behind);
            System.arraycopy(parts, (word + 1) * WORD_LETTERS, parts, word * WORD_LETTERS,
                    behind * WORD_LETTERS);
        }

        void copyFrom(Words other) {
            count = other.count;
            System.arraycopy(other.letters, 0, letters, 0, count);
            System.arraycopy(other.owners, 0, owners, 0, count);
            System.arraycopy(other.partCounts, 0, partCounts, 0, count);
            System.arraycopy(other.parts, 0, parts, 0, count * WORD_LETTERS);
        }
    }

    /** Everything that a text describes and that changes can change. */
    private static final class Book {
        final int[] settings = new int[SETTINGS];
        final int[] sums = new int[SUMS];
        final Users users = new Users();
        final Pieces pieces = new Pieces();
        final Words words = new Words();
        int time = 0;
        int chest = 0;
        int fund = 0;

        Book() {
            settings[DEPOSIT] = 1;
        }

        void clear() {
            Arrays.fill(sums, 0);
            users.count = 0;
            pieces.count = 0;
            words.count = 0;
            time = 0;
            chest = 0;
            fund = 0;
        }

        void copyFrom(Book other) {
            System.arraycopy(other.settings, 0, settings, 0, SETTINGS);
            System.arraycopy(other.sums, 0, sums, 0, SUMS);
            users.copyFrom(other.users);
            pieces.copyFrom(other.pieces);
            words.copyFrom(other.words);
            time = other.time;
            chest = other.chest;
            fund = other.fund;
        }

        int newPrice(int length) {
            return settings[PRICE] + settings[LETTER] * length;
        }

        int depositsFor(int parts) {
            return settings[DEPOSIT] * parts;
        }

        int heldFor(int user) {
            int parts = 0;
            for (int word = 0; word < words.count; word++) {
                if (words.owners[word] == user) {
                    parts += words.partCounts[word];
                }
            }
            return depositsFor(parts);
        }

        int costOf(Cutter cutting) {
            return cutting.newPrices + depositsFor(cutting.count);
        }

        int refusal(int user, Cutter cutting) {
            if (words.isFull()) {
                return TOO_MANY_WORDS;
            }
            if (pieces.count + cutting.newPieces > MAX_PIECES) {
                return TOO_MANY_PIECES;
            }
            return users.coinsOf(user) < costOf(cutting) ? TOO_FEW_COINS : NO_REASON;
        }

        /** Whoever calls this has looked before that nothing refuses it. */
        int storeCutting(int user, long row, Cutter cutting) {
            int word = words.add(row, user);
            for (int k = 0; k < cutting.count; k++) {
                int piece = pieces.numberOf(cutting.parts[k]);
                if (piece == NONE) {
                    piece = buyPiece(user, cutting.parts[k]);
                }
                words.addPart(word, piece);
                pieces.beginUse(piece);
            }
            int deposits = depositsFor(cutting.count);
            users.give(user, -deposits);
            fund += deposits;
            sums[DEPOSITS_PAID] += deposits;
            return word;
        }

        int buyPiece(int user, long row) {
            int price = newPrice(Letters.lengthOf(row));
            users.give(user, -price);
            chest += price;
            sums[PRICES_PAID] += price;
            sums[PIECES_CAME]++;
            return pieces.add(row, price, user, time);
        }

        void endWord(int word) {
            for (int k = 0; k < words.partCounts[word]; k++) {
                pieces.endUse(words.partAt(word, k), time);
            }
            giveBack(words.owners[word], depositsFor(words.partCounts[word]));
            words.drop(word);
        }

        int cutAnew(int word, Cutter cutter) {
            cutter.cutKnown(this, words.letters[word]);
            for (int k = 0; k < cutter.count; k++) {
                pieces.beginUse(pieces.numberOf(cutter.parts[k]));
            }
            int before = words.partCounts[word];
            for (int k = 0; k < before; k++) {
                pieces.endUse(words.partAt(word, k), time);
            }
            words.clearParts(word);
            for (int k = 0; k < cutter.count; k++) {
                words.addPart(word, pieces.numberOf(cutter.parts[k]));
            }
            int back = depositsFor(before - cutter.count);
            giveBack(words.owners[word], back);
            return back;
        }

        private void giveBack(int user, int deposits) {
            users.give(user, deposits);
            fund -= deposits;
            sums[DEPOSITS_BACK] += deposits;
        }

        int passTick() {
            time++;
            int before = pieces.count;
            int piece = 0;
            for (int seen = 0; seen < before && piece < pieces.count; seen++) {
                if (pieces.goesBack(piece, time, settings[KEEP])) {
                    // The next piece has this one's number then.
                    sendBack(piece);
                } else {
                    piece++;
                }
            }
            return before - pieces.count;
        }

        private void sendBack(int piece) {
            int refund = pieces.prices[piece] * settings[REFUND] / 100;
            users.give(pieces.owners[piece], refund);
            chest -= refund;
            sums[REFUNDS] += refund;
            sums[PIECES_WENT]++;
            pieces.drop(piece);
            words.closeGap(piece);
        }

        long madeUp(int word) {
            long row = 0;
            int length = 0;
            for (int k = 0; k < words.partCounts[word]; k++) {
                int piece = words.partAt(word, k);
                if (piece < 0 || piece >= pieces.count) {
                    return 0;
                }
                row = Letters.join(row, length, pieces.letters[piece]);
                length += Letters.lengthOf(pieces.letters[piece]);
            }
            return row;
        }

        boolean wordsAreMadeUp() {
            for (int word = 0; word < words.count; word++) {
                if (madeUp(word) != words.letters[word]) {
                    return false;
                }
            }
            return true;
        }

        boolean usesAreTrue() {
            for (int piece = 0; piece < pieces.count; piece++) {
                int uses = 0;
                for (int word = 0; word < words.count; word++) {
                    uses += words.usesIn(word, piece);
                }
                if (uses != pieces.uses[piece]) {
                    return false;
                }
            }
            return true;
        }

        boolean fundIsTrue() {
            int held = 0;
            for (int user = 0; user < users.count; user++) {
                held += heldFor(user);
            }
            return fund == held;
        }
    }

    /** Cuts words. Its rows are used again by each cutting, so that no call makes new ones. */
    private static final class Cutter {
        /** More than any cutting costs: the surcharge of a section that may not be used. */
        private static final int FAR = 1000000;

        /** The cutting that was made last: its pieces, and what of it is new to the book. */
        int count = 0;
        final long[] parts = new long[WORD_LETTERS];
        int newPieces = 0;
        int newPrices = 0;

        private long row = 0;
        private int length = 0;
        private int deposit = 1;
        /** What a piece costs beside its deposit, by its start in the word and its length. */
        private final int[][] surcharges = new int[WORD_LETTERS][PIECE_LETTERS + 1];
        // For each start: the best cutting of the letters from there to the end.
        private final int[] leastCost = new int[WORD_LETTERS + 1];
        private final int[] partCount = new int[WORD_LETTERS + 1];
        private final int[] firstLength = new int[WORD_LETTERS + 1];
        private final int[] wayCount = new int[WORD_LETTERS + 1];

        void cutCheapest(Book book, long word) {
            lookUp(book, word, true);
            solve();
            collectParts();
            countNew(book);
        }

        /** Cuts into pieces of the book alone: with equal costs the fewest are the cheapest. */
        void cutKnown(Book book, long word) {
            lookUp(book, word, false);
            solve();
            collectParts();
        }

        int countWays(Book book, long word) {
            lookUp(book, word, false);
            wayCount[length] = 1;
            for (int start = length - 1; start >= 0; start--) {
                wayCount[start] = 0;
                for (int n = 1; n <= longestAt(start); n++) {
                    if (surcharges[start][n] < FAR) {
                        wayCount[start] += wayCount[start + n];
                    }
                }
            }
            return wayCount[0];
        }

        /** By how many pieces the cutting made last is shorter with a piece that is not known. */
        int gainOf(long piece, int n) {
            if (!setSurcharge(piece, n, 0)) {
                return 0;
            }
            solve();
            setSurcharge(piece, n, FAR);
            return count - partCount[0];
        }

        private void lookUp(Book book, long word, boolean newAllowed) {
            row = word;
            length = Letters.lengthOf(word);
            deposit = book.depositsFor(1);
            for (int start = 0; start < length; start++) {
                for (int n = 1; n <= longestAt(start); n++) {
                    if (book.pieces.numberOf(Letters.section(row, start, n)) != NONE) {
                        surcharges[start][n] = 0;
                    } else {
                        surcharges[start][n] = newAllowed ? book.newPrice(n) : FAR;
                    }
                }
            }
        }

        private int longestAt(int start) {
            return Math.min(PIECE_LETTERS, length - start);
        }

        /** Returns whether the piece occurs in the word. */
        private boolean setSurcharge(long piece, int n, int surcharge) {
            boolean occurs = false;
            for (int start = 0; start + n <= length; start++) {
                if (Letters.section(row, start, n) == piece) {
                    surcharges[start][n] = surcharge;
                    occurs = true;
                }
            }
            return occurs;
        }

        private void solve() {
            leastCost[length] = 0;
            partCount[length] = 0;
            for (int start = length - 1; start >= 0; start--) {
                leastCost[start] = FAR;
                partCount[start] = 0;
                firstLength[start] = 0;
                // The longest first: of equal cuttings the one tried first stays.
                for (int n = longestAt(start); n >= 1; n--) {
                    tryFirst(start, n);
                }
            }
        }

        private void tryFirst(int start, int n) {
            int cost = deposit + surcharges[start][n] + leastCost[start + n];
            int number = 1 + partCount[start + n];
            if (cost >= FAR || cost > leastCost[start]) {
                return;
            }
            if (cost < leastCost[start] || number < partCount[start]) {
                leastCost[start] = cost;
                partCount[start] = number;
                firstLength[start] = n;
            }
        }

        private void collectParts() {
            count = 0;
            int start = 0;
            while (start < length && count < WORD_LETTERS && firstLength[start] > 0) {
                parts[count] = Letters.section(row, start, firstLength[start]);
                start += firstLength[start];
                count++;
            }
        }

        private void countNew(Book book) {
            newPieces = 0;
            newPrices = 0;
            for (int k = 0; k < count; k++) {
                if (book.pieces.numberOf(parts[k]) == NONE && !occursBefore(k)) {
                    newPieces++;
                    newPrices += book.newPrice(Letters.lengthOf(parts[k]));
                }
            }
        }

        private boolean occursBefore(int k) {
            for (int earlier = 0; earlier < k; earlier++) {
                if (parts[earlier] == parts[k]) {
                    return true;
                }
            }
            return false;
        }
    }

    /** Finds the part of a word that would help most as a piece. */
    private static final class Adviser {
        private static final int MAX_PARTS = WORD_LETTERS * PIECE_LETTERS;

        /** The part that was found last; its gain is 0 if no part helps. */
        int start = 0;
        int length = 0;
        int gain = 0;

        private final Cutter cutter = new Cutter();
        private int count = 0;
        private final long[] parts = new long[MAX_PARTS];
        private final int[] starts = new int[MAX_PARTS];
        private final int[] lengths = new int[MAX_PARTS];
        private final int[] gains = new int[MAX_PARTS];

        void weighParts(Book book, long row) {
            listParts(book, row);
            for (int word = 0; word < book.words.count; word++) {
                cutter.cutKnown(book, book.words.letters[word]);
                for (int i = 0; i < count; i++) {
                    gains[i] += cutter.gainOf(parts[i], lengths[i]);
                }
            }
            takeBest();
        }

        /** Lists the shorter parts first, and of equal length the ones that begin first. */
        private void listParts(Book book, long row) {
            count = 0;
            int letters = Letters.lengthOf(row);
            for (int n = 1; n <= PIECE_LETTERS; n++) {
                for (int from = 0; from + n <= letters && count < MAX_PARTS; from++) {
                    long section = Letters.section(row, from, n);
                    if (book.pieces.numberOf(section) == NONE) {
                        parts[count] = section;
                        starts[count] = from;
                        lengths[count] = n;
                        gains[count] = 0;
                        count++;
                    }
                }
            }
        }

        private void takeBest() {
            gain = 0;
            for (int i = 0; i < count; i++) {
                if (gains[i] > gain) {
                    gain = gains[i];
                    start = starts[i];
                    length = lengths[i];
                }
            }
        }
    }

    /** The books before the latest changes, the oldest first. */
    private static final class History {
        int count = 0;
        private final Book[] kept = new Book[MAX_CHANGES];

        History() {
            for (int i = 0; i < MAX_CHANGES; i++) {
                kept[i] = new Book();
            }
        }

        void keep(Book book) {
            if (count == MAX_CHANGES) {
                forgetOldest();
            }
            kept[count].copyFrom(book);
            count++;
        }

        void takeBack(Book book) {
            if (count > 0) {
                count--;
                book.copyFrom(kept[count]);
            }
        }

        void forget() {
            count = 0;
        }

        private void forgetOldest() {
            Book oldest = kept[0];
            for (int i = 1; i < MAX_CHANGES; i++) {
                kept[i - 1] = kept[i];
            }
            kept[MAX_CHANGES - 1] = oldest;
            count--;
        }
    }

    /** Reads a text into its draft, so that an error leaves the book that is used alone. */
    private static final class Parser {
        private static final int END = 0;
        private static final int BLANK = 1;
        private static final int INVALID = 2;
        private static final int WORD = 3;
        private static final int NUMBER = 4;
        private static final int SEMICOLON = 5;
        private static final int MAX_DIGITS = 4;

        private static final int BAD_TOKEN = 1;
        private static final int KNOWN_ALREADY = 2;
        private static final int OUT_OF_RANGE = 3;
        private static final int NO_SUCH_USER = 4;
        private static final int TOO_MANY = 5;
        private static final int NOT_STORED = 6;

        final Book draft = new Book();
        int errorAt = NONE;

        private final Cutter cutter = new Cutter();
        private final byte[] text = new byte[MAX_BYTES];
        private int length = 0;
        private int next = 0;
        private int errorCode = 0;
        // The token that was read last.
        private int kind = END;
        private int tokenAt = 0;
        private long letters = 0;
        private int number = 0;

        /** Returns 0 if the draft holds the book of the text, or else the code of the error. */
        int readText(byte[] bytes, int textLength) {
            length = Math.min(textLength, Math.min(bytes.length, MAX_BYTES));
            System.arraycopy(bytes, 0, text, 0, length);
            next = 0;
            errorCode = 0;
            errorAt = NONE;
            draft.clear();
            boolean fine = readHeader();
            // Each statement takes a byte at least.
            for (int i = 0; fine && i <= length; i++) {
                readToken();
                if (kind == END) {
                    return 0;
                }
                fine = readStatement();
            }
            return errorCode;
        }

        private boolean readHeader() {
            readToken();
            if (kind != WORD || !Letters.spell(letters, "book")) {
                return fail(BAD_TOKEN);
            }
            for (int setting = 0; setting < SETTINGS; setting++) {
                if (!readNumber(LEAST_SETTING[setting], MOST_SETTING[setting])) {
                    return false;
                }
                draft.settings[setting] = number;
            }
            return readSemicolon();
        }

        private boolean readStatement() {
            if (kind == WORD && Letters.spell(letters, "user")) {
                return readUser();
            }
            if (kind == WORD && Letters.spell(letters, "piece")) {
                return readPiece();
            }
            if (kind == WORD && Letters.spell(letters, "word")) {
                return readStoredWord();
            }
            return fail(BAD_TOKEN);
        }

        private boolean readUser() {
            if (draft.users.isFull()) {
                return fail(TOO_MANY);
            }
            if (!readLetters()) {
                return false;
            }
            if (draft.users.numberOf(letters) != NONE) {
                return fail(KNOWN_ALREADY);
            }
            long name = letters;
            if (!readNumber(0, MAX_COINS)) {
                return false;
            }
            draft.users.add(name, number);
            return readSemicolon();
        }

        private boolean readPiece() {
            if (draft.pieces.isFull()) {
                return fail(TOO_MANY);
            }
            if (!readLetters()) {
                return false;
            }
            if (draft.pieces.numberOf(letters) != NONE) {
                return fail(KNOWN_ALREADY);
            }
            if (Letters.lengthOf(letters) > PIECE_LETTERS) {
                return fail(OUT_OF_RANGE);
            }
            draft.pieces.add(letters, 0, NONE, 0);
            return readSemicolon();
        }

        private boolean readStoredWord() {
            if (draft.words.isFull()) {
                return fail(TOO_MANY);
            }
            if (!readLetters()) {
                return false;
            }
            int user = draft.users.numberOf(letters);
            if (user == NONE) {
                return fail(NO_SUCH_USER);
            }
            if (!readLetters()) {
                return false;
            }
            cutter.cutCheapest(draft, letters);
            if (draft.refusal(user, cutter) != NO_REASON) {
                return fail(NOT_STORED);
            }
            draft.storeCutting(user, letters, cutter);
            return readSemicolon();
        }

        private boolean readLetters() {
            readToken();
            return kind == WORD || fail(BAD_TOKEN);
        }

        private boolean readNumber(int least, int most) {
            readToken();
            if (kind != NUMBER) {
                return fail(BAD_TOKEN);
            }
            return number >= least && number <= most || fail(OUT_OF_RANGE);
        }

        private boolean readSemicolon() {
            readToken();
            return kind == SEMICOLON || fail(BAD_TOKEN);
        }

        private boolean fail(int code) {
            errorCode = code;
            errorAt = tokenAt;
            return false;
        }

        private void readToken() {
            while (next < length && kindOf(text[next]) == BLANK) {
                next++;
            }
            tokenAt = next;
            if (next >= length) {
                kind = END;
                return;
            }
            kind = kindOf(text[next]);
            next++;
            boolean run = kind == WORD || kind == NUMBER;
            while (run && next < length && kindOf(text[next]) == kind) {
                next++;
            }
            if (run && next - tokenAt > (kind == WORD ? WORD_LETTERS : MAX_DIGITS)) {
                kind = INVALID;
            }
            if (kind == WORD) {
                letters = Letters.read(text, tokenAt, next);
            } else if (kind == NUMBER) {
                number = valueOf(tokenAt, next);
            }
        }

        private int valueOf(int from, int end) {
            int value = 0;
            for (int i = from; i < end; i++) {
                value = value * 10 + text[i] - '0';
            }
            return value;
        }

        private static int kindOf(byte sign) {
            if (sign == SPACE || sign == LINE_FEED) {
                return BLANK;
            }
            if (sign >= 'a' && sign <= 'z') {
                return WORD;
            }
            if (sign >= '0' && sign <= '9') {
                return NUMBER;
            }
            return sign == ';' ? SEMICOLON : INVALID;
        }
    }
}
