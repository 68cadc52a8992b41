import java.util.Random;

/** Holds the class against the model over many runs of calls, the same ones each time. */
final class ModelTest {
    /** What an object answers behind so many calls is free. */
    private static final int CALLS = 512;
    /** The most that one step of a run calls: it may append a text of 600 bytes, and parse it. */
    private static final int CALLS_OF_A_STEP = 35;
    private static final int RUNS = 1500;
    private static final int TEXTS = 3000;

    private final Random random;
    private final PieceDeposits x = new PieceDeposits();
    private final Model m = new Model();
    private final String run;
    private final String alphabet;
    private String call = "";
    private int calls = 0;

    private ModelTest(String name, long seed) {
        run = name + " " + seed;
        random = new Random(seed);
        alphabet = "abcdefgh".substring(0, 1 + random.nextInt(4));
    }

    static void run() {
        for (int seed = 0; seed < RUNS; seed++) {
            new ModelTest("model run", seed).callAll();
        }
        for (int seed = 0; seed < TEXTS; seed++) {
            new ModelTest("model text", seed).parseBroken();
        }
    }

    private void callAll() {
        parse(goodText());
        int askedAbout = random.nextInt(8);
        while (calls + CALLS_OF_A_STEP <= CALLS) {
            callOne();
            for (int i = 0; i < askedAbout && calls + CALLS_OF_A_STEP <= CALLS; i++) {
                askAboutState();
            }
        }
        askToTheEnd();
    }

    private void parseBroken() {
        for (int i = 0; i < 3; i++) {
            parse(brokenText());
        }
        for (int i = 0; i < 100; i++) {
            askAboutState();
        }
    }

    private void askToTheEnd() {
        while (calls < CALLS) {
            askAboutState();
        }
    }

    /** A text with no, one or two faults. */
    private String brokenText() {
        StringBuilder text = new StringBuilder(goodText());
        int faults = random.nextInt(3);
        for (int f = 0; f < faults && text.length() > 1; f++) {
            breakOne(text);
        }
        return text.toString();
    }

    private void breakOne(StringBuilder text) {
        int at = random.nextInt(text.length());
        switch (random.nextInt(5)) {
            case 0:
                text.setLength(at);
                break;
            case 1:
                text.deleteCharAt(at);
                break;
            case 2:
                text.insert(at, pick(" ", "\n", ";", "9", "0", "a", "\t", "A", "\u00e9", "_"));
                break;
            case 3:
                text.insert(at, pick("user", "piece", "word", "aa", " 100 ", "12345", " a "));
                break;
            default:
                text.setCharAt(at, pick(" ", ";", "7", "a", "b").charAt(0));
                break;
        }
    }

    private void callOne() {
        int user = wild(random.nextInt(20) == 0 ? random.nextInt(7) - 1 : random.nextInt(3));
        int what = wild(random.nextInt(9) - 1);
        switch (random.nextInt(31)) {
            case 0: case 1: case 2: case 3: case 4: case 5: case 6:
                putWord();
                compare("store(" + user + ")", () -> x.store(user), () -> m.store(user));
                break;
            case 7: case 8: case 9:
                int gone = someWord();
                compare("remove(" + gone + ")", () -> x.remove(gone), () -> m.remove(gone));
                break;
            case 10: case 11:
                int cut = someWord();
                compare("recut(" + cut + ")", () -> x.recut(cut), () -> m.recut(cut));
                break;
            case 12:
                compare("recutAll()", () -> x.recutAll(), () -> m.recutAll());
                break;
            case 13: case 14: case 15:
                putWord();
                compare("bring(" + user + ")", () -> x.bring(user), () -> m.bring(user));
                break;
            case 16: case 17:
                int ticks = wild(random.nextInt(20) == 0 ? random.nextInt(34) - 1
                        : 1 + random.nextInt(3));
                compare("tick(" + ticks + ")", () -> x.tick(ticks), () -> m.tick(ticks));
                break;
            case 18:
                payOne(user);
                break;
            case 19: case 20:
                compare("undo()", () -> x.undo(), () -> m.undo());
                break;
            case 21:
                snapshotOne();
                break;
            case 22:
                putWord();
                compare("quote(" + what + ")", () -> x.quote(what), () -> m.quote(what));
                break;
            case 23:
                putWord();
                compare("whyNotStore(" + user + ")", () -> x.whyNotStore(user),
                        () -> m.whyNotStore(user));
                break;
            case 24:
                putWord();
                compare("find(" + what + ")", () -> x.find(what), () -> m.find(what));
                break;
            case 25:
                if (random.nextInt(5) == 0) {
                    parse(brokenText());
                }
                break;
            default:
                askOne(user, what);
                break;
        }
    }

    private void askOne(int user, int what) {
        int word = someWord();
        int other = someWord();
        int piece = wild(random.nextInt(m.size(1) + 2) - 1);
        int k = wild(random.nextInt(14) - 1);
        compare("ways " + word, () -> x.ways(word), () -> m.ways(word));
        compare("fewest " + word, () -> x.fewest(word), () -> m.fewest(word));
        compare("saving " + word, () -> x.saving(word), () -> m.saving(word));
        compare("bestPart " + word + " " + what, () -> x.bestPart(word, what),
                () -> m.bestPart(word, what));
        compare("shared " + word + " " + other, () -> x.shared(word, other),
                () -> m.shared(word, other));
        compare("favourite", () -> x.favourite(), () -> m.favourite());
        compare("richest", () -> x.richest(), () -> m.richest());
        compare("account " + what, () -> x.account(what), () -> m.account(what));
        compare("size " + what, () -> x.size(what), () -> m.size(what));
        compare("user " + user + " " + what, () -> x.user(user, what), () -> m.user(user, what));
        compare("piece " + piece + " " + what, () -> x.piece(piece, what),
                () -> m.piece(piece, what));
        compare("word " + word + " " + what, () -> x.word(word, what), () -> m.word(word, what));
        compare("part " + word + " " + k, () -> x.part(word, k), () -> m.part(word, k));
        compare("wordLetter " + word + " " + k, () -> x.wordLetter(word, k),
                () -> m.wordLetter(word, k));
        compare("pieceLetter " + piece + " " + k, () -> x.pieceLetter(piece, k),
                () -> m.pieceLetter(piece, k));
    }

    private void payOne(int user) {
        int other = wild(random.nextInt(3));
        int coins = wild(random.nextInt(20) == 0 ? 9990 + random.nextInt(20)
                : random.nextInt(60) - 1);
        compare("pay(" + user + ", " + other + ", " + coins + ")",
                () -> x.pay(user, other, coins), () -> m.pay(user, other, coins));
    }

    private void snapshotOne() {
        int slot = wild(random.nextInt(10) == 0 ? random.nextInt(5) - 1 : random.nextInt(2));
        if (random.nextInt(3) == 0) {
            compare("restoreSnapshot(" + slot + ")", () -> x.restoreSnapshot(slot),
                    () -> m.restoreSnapshot(slot));
        } else {
            compare("saveSnapshot(" + slot + ")", () -> x.saveSnapshot(slot) ? 1 : 0,
                    () -> m.saveSnapshot(slot) ? 1 : 0);
        }
    }

    /** One call that asks for something of what is there. */
    private void askAboutState() {
        int size = random.nextInt(12);
        int sum = random.nextInt(6);
        switch (random.nextInt(8)) {
            case 0:
                compare("size " + size, () -> x.size(size), () -> m.size(size));
                break;
            case 1:
                compare("account " + sum, () -> x.account(sum), () -> m.account(sum));
                break;
            case 2:
                compare("errorPosition", () -> x.errorPosition(), () -> m.errorPosition());
                break;
            case 3:
                compare("isWhole", () -> x.isWhole() ? 1 : 0, () -> 1);
                break;
            case 4:
                int user = random.nextInt(Math.max(1, m.size(0)));
                int what = random.nextInt(5);
                compare("user " + user + " " + what, () -> x.user(user, what),
                        () -> m.user(user, what));
                break;
            case 5:
                askAboutPiece(random.nextInt(Math.max(1, m.size(1))), random.nextInt(9) - 1);
                break;
            default:
                askAboutWord(random.nextInt(Math.max(1, m.size(2))), random.nextInt(15) - 1);
                break;
        }
    }

    private void askAboutPiece(int piece, int k) {
        if (random.nextBoolean()) {
            compare("piece " + piece + " " + k, () -> x.piece(piece, k), () -> m.piece(piece, k));
        } else {
            compare("pieceLetter " + piece + " " + k, () -> x.pieceLetter(piece, k),
                    () -> m.pieceLetter(piece, k));
        }
    }

    private void askAboutWord(int word, int k) {
        switch (random.nextInt(3)) {
            case 0:
                compare("word " + word + " " + k, () -> x.word(word, k), () -> m.word(word, k));
                break;
            case 1:
                compare("part " + word + " " + k, () -> x.part(word, k), () -> m.part(word, k));
                break;
            default:
                compare("wordLetter " + word + " " + k, () -> x.wordLetter(word, k),
                        () -> m.wordLetter(word, k));
                break;
        }
    }

    private void compare(String what, Check.Call ours, Check.Call due) {
        if (what.indexOf('(') > 0) {
            call = what;
        }
        calls++;
        Check.dueText(run + " after " + call + ": " + what, answer(ours), answer(due));
    }

    private static String answer(Check.Call call) {
        try {
            return Long.toString(call.answer());
        } catch (RuntimeException e) {
            return e.getClass().getSimpleName();
        }
    }

    // ---- what is called with

    private int someWord() {
        int words = m.size(2);
        return wild(words == 0 || random.nextInt(25) == 0 ? random.nextInt(words + 2) - 1
                : random.nextInt(words));
    }

    /** The number itself, or now and then one that no call can want. */
    private int wild(int usual) {
        if (random.nextInt(60) != 0) {
            return usual;
        }
        int[] all = {Integer.MIN_VALUE, Integer.MAX_VALUE, -2, 64, 1 << 20, random.nextInt()};
        return all[random.nextInt(all.length)];
    }

    private void putWord() {
        String word = letters(1 + random.nextInt(random.nextInt(3) == 0 ? 12 : 6));
        int fault = random.nextInt(40);
        if (fault == 0) {
            word = pick("", "abcdefghijklm", " a", "a b", "a\n", "A", "a1", "za ");
        }
        put(word);
    }

    private void put(String text) {
        StringBuilder padded = new StringBuilder(text);
        while (padded.length() % Feed.STEP != 0) {
            padded.append(' ');
        }
        for (int i = 0; i < padded.length(); i += Feed.STEP) {
            String part = padded.substring(i, i + Feed.STEP);
            compare("append", () -> Feed.append(x, part), () -> m.append(part));
        }
    }

    private void parse(String text) {
        String cut = text.length() > 600 ? text.substring(0, 600) : text;
        put(cut);
        compare("parse(" + cut + ")", () -> x.parse(cut.length()), () -> m.parse(cut.length()));
        compare("errorPosition", () -> x.errorPosition(), () -> m.errorPosition());
    }

    private String goodText() {
        StringBuilder text = new StringBuilder("book ");
        text.append(random.nextInt(3) == 0 ? random.nextInt(100) : random.nextInt(8)).append(' ');
        text.append(random.nextInt(3) == 0 ? random.nextInt(10) : random.nextInt(3)).append(' ');
        text.append(1 + random.nextInt(random.nextBoolean() ? 9 : 3)).append(' ');
        text.append(random.nextInt(3) == 0 ? random.nextInt(21) : random.nextInt(3)).append(' ');
        text.append(random.nextInt(101)).append(';');
        int users = 1 + random.nextInt(3);
        for (int user = 0; user < users; user++) {
            text.append("user ").append("uvwz".charAt(user)).append(' ');
            text.append(random.nextInt(random.nextInt(4) == 0 ? 100 : 2000)).append(';');
        }
        int statements = random.nextInt(random.nextInt(4) == 0 ? 40 : 10);
        for (int i = 0; i < statements; i++) {
            if (random.nextBoolean()) {
                text.append("piece ").append(letters(1 + random.nextInt(4))).append(";\n");
            } else {
                text.append("word ").append("uvwz".charAt(random.nextInt(users))).append(' ');
                text.append(letters(1 + random.nextInt(6))).append("; ");
            }
        }
        return text.toString();
    }

    private String letters(int count) {
        StringBuilder word = new StringBuilder();
        for (int i = 0; i < count; i++) {
            word.append(alphabet.charAt(random.nextInt(alphabet.length())));
        }
        return word.toString();
    }

    private String pick(String... all) {
        return all[random.nextInt(all.length)];
    }
}
