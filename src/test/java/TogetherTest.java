import java.util.Random;

/**
 * Sentences that tie one call's answer to another one's, and two objects that are used by turns.
 * The answers are held against each other, so that no second reading of the document is needed.
 */
final class TogetherTest {
    private static final int NONE = PieceDeposits.NONE;
    private static final int RUNS = 60;

    private final Random random;
    private final String text;
    private final PieceDeposits x;
    private final int housePieces;
    private final int allCoins;

    private TogetherTest(long seed) {
        random = new Random(seed);
        text = "book " + random.nextInt(12) + " " + random.nextInt(4) + " "
                + (1 + random.nextInt(9)) + " " + random.nextInt(4) + " " + random.nextInt(101)
                + ";user u 3000;user v 400;user w 0;piece a;piece b;piece ab;"
                + "word u abab;word v bbaabb;word u ba;";
        x = Feed.book(text);
        housePieces = 3;
        allCoins = 3400;
    }

    static void run() {
        for (int seed = 0; seed < RUNS; seed++) {
            new TogetherTest(seed).storesAsQuoted();
            new TogetherTest(seed).recutsAsTold();
            new TogetherTest(seed).bestPartHelpsAsTold();
            new TogetherTest(seed).sumsAreTrue();
        }
        twoObjects();
        twoObjectsByTurns();
        refundOfAPieceOfTheText();
        wordOfTheLastLetter();
    }

    private String letters(int most) {
        StringBuilder word = new StringBuilder();
        int count = 1 + random.nextInt(most);
        for (int i = 0; i < count; i++) {
            word.append((char) ('a' + random.nextInt(2)));
        }
        return word.toString();
    }

    private void changeOne() {
        int words = x.size(2);
        switch (random.nextInt(6)) {
            case 0:
                storeIfPossible(random.nextInt(3), letters(12));
                break;
            case 1:
                bringIfPossible(random.nextInt(2), letters(6));
                break;
            case 2:
                x.tick(1 + random.nextInt(3));
                break;
            case 3:
                x.pay(0, 1 + random.nextInt(2), random.nextInt(5));
                break;
            case 4:
                if (words > 1) {
                    x.remove(random.nextInt(words));
                }
                break;
            default:
                if (words > 0) {
                    x.recut(random.nextInt(words));
                }
                break;
        }
    }

    private void storeIfPossible(int user, String word) {
        if (Feed.put(x, word).whyNotStore(user) == 0) {
            Feed.put(x, word).store(user);
        }
    }

    private boolean bringIfPossible(int user, String piece) {
        int price = x.size(6) + x.size(7) * piece.length();
        boolean possible = Feed.put(x, piece).find(1) == NONE && x.size(1) < 24
                && x.user(user, 0) >= price;
        if (possible) {
            Feed.put(x, piece).bring(user);
        }
        return possible;
    }

    /** quote tells what it would cost to store the word now. */
    private void storesAsQuoted() {
        for (int i = 0; i < 8; i++) {
            changeOne();
            String word = letters(12);
            int[] quoted = new int[5];
            for (int what = 0; what < 5; what++) {
                quoted[what] = Feed.put(x, word).quote(what);
            }
            if (Feed.put(x, word).whyNotStore(0) != 0) {
                continue;
            }
            int coins = x.user(0, 0);
            int fund = x.size(5);
            int chest = x.size(4);
            int pieces = x.size(1);
            int stored = Feed.put(x, word).store(0);
            String what = word + " with " + text;
            Check.due("all that is paid for " + what, coins - x.user(0, 0), quoted[0]);
            Check.due("the deposits for " + what, x.size(5) - fund, quoted[1]);
            Check.due("held for " + what, x.word(stored, 3), quoted[1]);
            Check.due("the prices for " + what, x.size(4) - chest, quoted[2]);
            Check.due("pieces of the cutting of " + what, x.word(stored, 2), quoted[3]);
            Check.due("new pieces for " + what, x.size(1) - pieces, quoted[4]);
            Check.dueText("its letters", Feed.word(x, stored), word);
            Check.due("its number of letters", x.word(stored, 1), word.length());
            Check.dueText("its pieces make it up", Feed.cutting(x, stored).replace(".", ""), word);
        }
    }

    /** saving and fewest tell what recut and recutAll then do. */
    private void recutsAsTold() {
        int deposit = x.size(8);
        for (int i = 0; i < 8 && x.size(2) > 0; i++) {
            changeOne();
            bringIfPossible(0, letters(6));
            int words = x.size(2);
            int all = 0;
            for (int word = 0; word < words; word++) {
                int saved = x.saving(word);
                Check.due("saving", saved, x.word(word, 3) - x.fewest(word) * deposit);
                all += saved;
            }
            if (words > 0) {
                all -= recutOne(random.nextInt(words));
            }
            Check.due("recutAll gives back with " + text, x.recutAll(), all);
        }
    }

    private int recutOne(int word) {
        int due = x.saving(word);
        int fewest = x.fewest(word);
        int user = x.word(word, 0);
        int coins = x.user(user, 0);
        Check.due("some way is there", x.ways(word) >= 1, true);
        Check.due("recut gives back with " + text, x.recut(word), due);
        Check.due("coins of its user", x.user(user, 0), coins + due);
        Check.due("pieces of the cutting", x.word(word, 2), fewest);
        Check.due("nothing more to save", x.saving(word), 0);
        return due;
    }

    /** With the best part in the book, too, the sum of the least numbers is less by its number. */
    private void bestPartHelpsAsTold() {
        for (int i = 0; i < 10 && x.size(2) > 0; i++) {
            changeOne();
            int word = random.nextInt(x.size(2));
            int start = x.bestPart(word, 0);
            int length = x.bestPart(word, 1);
            int less = x.bestPart(word, 2);
            if (start == NONE) {
                Check.due("no part", length, NONE);
                Check.due("no part", less, NONE);
                continue;
            }
            int sum = sumOfFewest();
            String part = Feed.word(x, word).substring(start, start + length);
            if (bringIfPossible(0, part)) {
                Check.due("less by " + part + " with " + text, sum - sumOfFewest(), less);
            }
        }
    }

    private int sumOfFewest() {
        int sum = 0;
        for (int word = 0; word < x.size(2); word++) {
            sum += x.fewest(word);
        }
        return sum;
    }

    /** The sums of account(), the coins, the uses and the owners, whatever was done. */
    private void sumsAreTrue() {
        Check.due("paid while the text was parsed", x.account(0) + x.account(2),
                allCoins - x.user(0, 0) - x.user(1, 0) - x.user(2, 0));
        for (int i = 0; i < 20; i++) {
            changeOne();
            if (random.nextInt(8) == 0) {
                x.undo();
            }
        }
        Check.due("the chest", x.size(4), x.account(0) - x.account(1));
        Check.due("the fund", x.size(5), x.account(2) - x.account(3));
        Check.due("pieces", x.size(1), housePieces + x.account(4) - x.account(5));
        int coins = x.size(4) + x.size(5);
        int owned = 0;
        int held = 0;
        int words = 0;
        for (int user = 0; user < x.size(0); user++) {
            coins += x.user(user, 0);
            words += x.user(user, 1);
            held += x.user(user, 2);
            owned += x.user(user, 3);
        }
        Check.due("all coins with " + text, coins, allCoins);
        Check.due("words of all users", words, x.size(2));
        Check.due("deposits of all users", held, x.size(5));
        Check.due("pieces with an owner", owned, x.size(1) - housePieces);
        int uses = 0;
        for (int piece = 0; piece < x.size(1); piece++) {
            uses += x.piece(piece, 3);
            Check.due("used or idle", x.piece(piece, 3) > 0, x.piece(piece, 4) == NONE);
        }
        Check.due("uses, by their deposits", uses * x.size(8), x.size(5));
        Check.due("whole", x.isWhole(), true);
    }

    // ---- two objects

    /** What is done with one object does not show in another one. */
    private static void twoObjects() {
        PieceDeposits one = Sample.rich();
        PieceDeposits other = new PieceDeposits();
        Check.due("an empty buffer", Feed.append(other, " ".repeat(Feed.STEP)), 20);
        Check.due("no position", other.errorPosition(), NONE);
        Check.due("no undo", other.undo(), NONE);
        Check.due("an empty slot", other.saveSnapshot(0), false);
        Check.due("no word", other.find(0), NONE);
        Check.due("parse", Feed.parse(other,
                "book 5 5 5 5 5;user z 99;piece ab;piece z;word z zab;"), 0);
        other.recutAll();
        other.tick(30);
        other.remove(0);
        other.saveSnapshot(1);
        Feed.append(other, "zzzz                ");
        Check.dueText("the first one stays", Refusal.allOf(one), Refusal.allOf(Sample.rich()));
    }

    /** Each of two objects that are called by turns answers as if it were alone. */
    private static void twoObjectsByTurns() {
        String[] texts = {"book 3 1 2 1 50;user u 90;user v 80;piece a;word u ab;",
            "book 7 0 4 0 100;user v 70;user u 95;piece b;piece ab;word v bab;"};
        String[] dues = new String[2];
        for (int i = 0; i < 2; i++) {
            PieceDeposits alone = Feed.book(texts[i]);
            for (int step = 0; step < 8; step++) {
                step(alone, step);
            }
            dues[i] = Refusal.allOf(alone);
        }
        PieceDeposits[] both = {Feed.book(texts[0]), Feed.book(texts[1])};
        for (int step = 0; step < 8; step++) {
            step(both[0], step);
            step(both[1], step);
        }
        for (int i = 0; i < 2; i++) {
            Check.dueText("object " + i, Refusal.allOf(both[i]), dues[i]);
        }
    }

    private static void step(PieceDeposits x, int step) {
        switch (step) {
            case 0:
                Feed.put(x, "abab").store(1);
                break;
            case 1:
                Feed.put(x, "bb").bring(0);
                break;
            case 2:
                x.saveSnapshot(0);
                break;
            case 3:
                x.tick(2);
                break;
            case 4:
                x.bestPart(0, 2);
                Feed.put(x, "bbbaab");
                break;
            case 5:
                x.store(0);
                break;
            case 6:
                x.recutAll();
                break;
            default:
                x.pay(1, 0, 3);
                break;
        }
    }

    // ---- words of a text

    /** A word of the text pays for its pieces as store does: they go back for a refund, too. */
    private static void refundOfAPieceOfTheText() {
        PieceDeposits x = Feed.book("book 9 5 2 1 50;user u 40;user v 40;piece b;"
                + "word v aab;word u aa;");
        Check.dueText("the cutting", Feed.cutting(x, 0), "aa.b");
        Check.due("v paid 19 and 4", x.user(1, 0), 17);
        Check.due("u paid 2", x.user(0, 0), 38);
        x.remove(0);
        Check.due("used by u", x.tick(30), 0);
        x.remove(0);
        Check.due("kept for a tick", x.tick(1), 0);
        Check.due("it goes back", x.tick(1), 1);
        Check.due("v gets the refund", x.user(1, 0), 21 + 9);
        Check.due("u does not", x.user(0, 0), 40);
        Check.due("the chest", x.size(4), 10);
        Check.due("the house keeps b", x.size(1), 1);
    }

    /** Twelve times the last letter, in pieces of one to six of it. */
    private static void wordOfTheLastLetter() {
        PieceDeposits x = Feed.book("book 99 0 1 9 0;user zzzzzzzzzzzz 999;piece z;"
                + "word zzzzzzzzzzzz zzzzzzzzzzzz;");
        Check.due("its letters", x.word(0, 1), 12);
        Check.due("its pieces", x.word(0, 2), 12);
        Check.due("the last letter", x.wordLetter(0, 11), 25);
        Check.due("no more", x.wordLetter(0, 12), NONE);
        Check.due("the user", Feed.put(x, "zzzzzzzzzzzz").find(0), 0);
        Check.due("the word", Feed.put(x, "zzzzzzzzzzzz").find(2), 0);
        Check.due("no piece", Feed.put(x, "zzzzzzzzzzzz").find(1), NONE);
        Check.due("best part", x.bestPart(0, 1), 6);
        Check.due("makes less", x.bestPart(0, 2), 10);
        Feed.put(x, "zzzzzz").bring(0);
        Check.due("ways", x.ways(0), 9);
        Check.due("back", x.recut(0), 10);
        Check.dueText("the cutting", Feed.cutting(x, 0), "zzzzzz.zzzzzz");
        Check.due("whole", x.isWhole(), true);
    }
}
