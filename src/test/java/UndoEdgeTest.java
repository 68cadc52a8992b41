/** The boundaries of what is a change, of undo and of the snapshots (promises 31 to 33). */
final class UndoEdgeTest {
    private static final int NONE = PieceDeposits.NONE;
    private static final String BOOK = "book 7 3 2 1 33;user ann 400;user bob 300;piece a;piece b;"
            + "word ann abc;word bob ab;";

    private UndoEdgeTest() {
    }

    static void run() {
        changesFromStoreToPay();
        changesThatAlterNothing();
        callsThatAreNoChanges();
        refusedCallsAreNoChanges();
        promise31NoneToUndo();
        promise31Latest10Changes();
        promise31LatestFirst();
        promise31AllOfOneChange();
        promise31AfterUndo();
        promise31PieceThatWentBack();
        parseClearsHistoryAndSlots();
        parseWithAnErrorClearsNothing();
        promise32EarlierOne();
        promise32InPlaceOfAnEarlierOne();
        promise32HoldsAll();
        promise33StaysStored();
        promise33HistoryIsCleared();
        promise33NumberOfWords();
        promise33LaterChangesLeaveIt();
        promise33EmptySlots();
    }

    private static PieceDeposits filled() {
        return Feed.book(BOOK);
    }

    // ---- changes

    /** The methods from store to pay are changes. */
    private static void changesFromStoreToPay() {
        isChange("store", x -> Feed.put(x, "b").store(1));
        isChange("remove", x -> x.remove(1));
        isChange("recut", x -> x.recut(0));
        isChange("recutAll", x -> x.recutAll());
        isChange("bring", x -> Feed.put(x, "ab").bring(0));
        isChange("tick", x -> x.tick(1));
        isChange("pay", x -> x.pay(0, 1, 3));
    }

    private static void isChange(String what, Refusal.Use use) {
        PieceDeposits x = filled();
        Feed.put(x, "cab").bring(0);
        String before = Feed.stateBesidesUndo(x);
        use.of(x);
        Check.due(what + " is a change", x.size(11), 2);
        Check.due(what + " can be undone", x.undo(), 1);
        Check.dueText(what + " is undone", Feed.stateBesidesUndo(x), before);
    }

    /** ... also if they alter nothing. */
    private static void changesThatAlterNothing() {
        isChange("recut of nothing", x -> x.recut(1));
        isChange("recutAll of nothing", x -> x.recutAll());
        isChange("pay of nothing", x -> x.pay(0, 1, 0));
        isChange("pay to itself", x -> x.pay(1, 1, 300 - 4));
        PieceDeposits x = new PieceDeposits();
        x.recutAll();
        x.recutAll();
        Check.due("without words", x.size(11), 2);
        Check.due("undo", x.undo(), 1);
    }

    private static void callsThatAreNoChanges() {
        PieceDeposits x = filled();
        x.pay(0, 1, 3);
        Feed.put(x, "ab").find(1);
        Feed.put(x, "ab").quote(0);
        Feed.put(x, "ab").whyNotStore(0);
        x.bestPart(0, 0);
        x.saveSnapshot(0);
        x.saveSnapshot(1);
        Feed.append(x, "b" + " ".repeat(19));
        Check.due("one change", x.size(11), 1);
        Check.due("undo", x.undo(), 0);
        Check.due("nor is undo", x.size(11), 0);
        x.restoreSnapshot(0);
        Check.due("nor is restoreSnapshot", x.size(11), 0);
        Check.due("the buffer stays", x.find(1), 1);
    }

    /** ... if they throw no exception. */
    private static void refusedCallsAreNoChanges() {
        PieceDeposits x = filled();
        for (int i = 0; i < 11; i++) {
            x.tick(1);
        }
        Feed.put(x, "zzz");
        Check.outOfBounds("store", () -> x.store(2));
        Check.badArgument("store", () -> x.store(0));
        Check.outOfBounds("remove", () -> x.remove(2));
        Check.outOfBounds("recut", () -> x.recut(2));
        Check.outOfBounds("bring", () -> x.bring(2));
        Check.badArgument("bring", () -> x.bring(0));
        Check.badArgument("tick", () -> x.tick(31));
        Check.badState("pay", () -> x.pay(0, 1, 500));
        for (int time = 10; time >= 1; time--) {
            Check.due("undo", x.undo(), time - 1);
            Check.due("the time", x.size(3), time);
        }
        Check.due("no more", x.undo(), NONE);
    }

    // ---- promise 31

    /** NONE if there was none to undo. */
    private static void promise31NoneToUndo() {
        PieceDeposits x = filled();
        String before = Feed.state(x);
        Check.due("none", x.undo(), NONE);
        Check.due("none again", x.undo(), NONE);
        Check.dueText("nothing changes", Feed.state(x), before);
        x.tick(1);
        Check.due("one", x.undo(), 0);
        Check.due("none", x.undo(), NONE);
        Check.dueText("nothing changes", Feed.state(x), before);
    }

    /** The latest 10 changes can be undone. */
    private static void promise31Latest10Changes() {
        for (int changes = 0; changes <= 25; changes++) {
            PieceDeposits x = filled();
            for (int i = 0; i < changes; i++) {
                x.pay(0, 1, 1);
            }
            int kept = Math.min(changes, 10);
            Check.due("changes", x.size(11), kept);
            for (int left = kept - 1; left >= 0; left--) {
                Check.due("undo", x.undo(), left);
            }
            Check.due("no more", x.undo(), NONE);
            Check.due("the coins", x.user(0, 0), filled().user(0, 0) - (changes - kept));
        }
    }

    private static void promise31LatestFirst() {
        PieceDeposits x = filled();
        x.pay(0, 1, 100);
        x.tick(3);
        Feed.put(x, "b").store(1);
        Check.due("the word goes", x.undo(), 2);
        Check.due("words", x.size(2), 2);
        Check.due("the time is still", x.size(3), 3);
        Check.due("the ticks go", x.undo(), 1);
        Check.due("the time", x.size(3), 0);
        Check.due("the coins are still", x.user(1, 0), 396);
        Check.due("the coins go", x.undo(), 0);
        Check.due("the coins", x.user(1, 0), 296);
    }

    /** All ticks of a call, and all words of recutAll, are one change. */
    private static void promise31AllOfOneChange() {
        PieceDeposits x = filled();
        Feed.put(x, "uv").bring(0);
        Feed.put(x, "wx").bring(1);
        Feed.put(x, "ab").bring(1);
        String before = Feed.stateBesidesUndo(x);
        Check.due("deposits back", x.recutAll(), 4);
        Check.due("undo", x.undo(), 3);
        Check.dueText("all is as before", Feed.stateBesidesUndo(x), before);
        Check.due("pieces that go", x.tick(30), 3);
        Check.due("undo", x.undo(), 3);
        Check.dueText("all is as before", Feed.stateBesidesUndo(x), before);
    }

    /** A change after an undo takes the place of the one that was undone. */
    private static void promise31AfterUndo() {
        PieceDeposits x = filled();
        for (int i = 0; i < 10; i++) {
            x.tick(1);
        }
        x.undo();
        x.undo();
        x.undo();
        x.pay(0, 1, 1);
        Check.due("7 and 1", x.size(11), 8);
        x.pay(0, 1, 1);
        x.pay(0, 1, 1);
        Check.due("10", x.size(11), 10);
        x.pay(0, 1, 1);
        Check.due("10 still", x.size(11), 10);
        for (int left = 9; left >= 0; left--) {
            Check.due("undo", x.undo(), left);
        }
        Check.due("the first tick can't be undone", x.undo(), NONE);
        Check.due("the time", x.size(3), 1);
    }

    private static void promise31PieceThatWentBack() {
        PieceDeposits x = Feed.book("book 7 3 2 0 50;user u 99;piece q;");
        Feed.put(x, "a").bring(0);
        Feed.put(x, "b").store(0);
        Feed.put(x, "c").bring(0);
        Feed.put(x, "d").store(0);
        x.saveSnapshot(0);
        String before = Feed.stateBesidesUndo(x);
        Check.due("a and c", x.tick(1), 2);
        Check.due("d is piece 2", x.part(1, 0), 2);
        x.undo();
        Check.dueText("they are back, with their numbers", Feed.stateBesidesUndo(x), before);
        x.tick(1);
        x.restoreSnapshot(0);
        Check.dueText("they are back, with their numbers", Feed.stateBesidesUndo(x), before);
    }

    // ---- parse

    /** A successful parse clears the undo history and empties both slots. */
    private static void parseClearsHistoryAndSlots() {
        PieceDeposits x = Sample.rich();
        Check.due("changes", x.size(11), 10);
        Check.due("parse", Feed.parse(x, BOOK), 0);
        Check.due("no changes", x.size(11), 0);
        Check.due("no undo", x.undo(), NONE);
        Check.badState("slot 0", () -> x.restoreSnapshot(0));
        Check.badState("slot 1", () -> x.restoreSnapshot(1));
        Check.due("slot 0", x.saveSnapshot(0), false);
        Check.due("slot 1", x.saveSnapshot(1), false);
        Check.due("the same text again", Feed.parse(x, BOOK), 0);
        Check.badState("slot 0", () -> x.restoreSnapshot(0));
        x.tick(1);
        Check.due("one change", x.undo(), 0);
    }

    private static void parseWithAnErrorClearsNothing() {
        PieceDeposits x = Sample.rich();
        Check.due("an error", Feed.parse(x, BOOK + "#"), 1);
        Check.badArgument("no parse", () -> x.parse(1));
        Check.due("changes", x.size(11), 10);
        Check.due("undo", x.undo(), 9);
        Check.due("slot 0", x.saveSnapshot(0), true);
        Check.due("words of slot 1", x.restoreSnapshot(1), 3);
    }

    // ---- promise 32

    /** Returns whether there was an earlier one: in this slot. */
    private static void promise32EarlierOne() {
        for (int slot = 0; slot < 2; slot++) {
            PieceDeposits x = filled();
            int other = 1 - slot;
            Check.due("none", x.saveSnapshot(slot), false);
            Check.due("one", x.saveSnapshot(slot), true);
            Check.badState("the other is empty", () -> x.restoreSnapshot(other));
            Check.due("none", x.saveSnapshot(other), false);
            Check.due("one", x.saveSnapshot(other), true);
            x.restoreSnapshot(slot);
            Check.due("it stays", x.saveSnapshot(slot), true);
        }
    }

    /** Saves a snapshot in place of an earlier one. */
    private static void promise32InPlaceOfAnEarlierOne() {
        PieceDeposits x = filled();
        x.saveSnapshot(0);
        x.saveSnapshot(1);
        x.tick(5);
        x.saveSnapshot(1);
        x.tick(2);
        x.restoreSnapshot(1);
        Check.due("the later one", x.size(3), 5);
        x.restoreSnapshot(0);
        Check.due("the other slot's", x.size(3), 0);
    }

    /** A snapshot holds everything that changes can change, the sums of account(), too. */
    private static void promise32HoldsAll() {
        PieceDeposits x = filled();
        Feed.put(x, "uv").bring(1);
        x.tick(1);
        Feed.put(x, "wx").bring(0);
        x.remove(0);
        x.saveSnapshot(0);
        String saved = Feed.stateBesidesUndo(x);
        Feed.put(x, "wxwx").store(1);
        x.pay(0, 1, 9);
        x.tick(2);
        x.recutAll();
        x.remove(0);
        Check.due("it is another state", Feed.stateBesidesUndo(x).equals(saved), false);
        x.restoreSnapshot(0);
        Check.dueText("all is as it was", Feed.stateBesidesUndo(x), saved);
        Check.due("uv goes at its time", x.tick(1), 1);
        Check.due("wx and c go at their time", x.tick(1), 2);
    }

    // ---- promise 33

    /** The snapshot stays stored. */
    private static void promise33StaysStored() {
        PieceDeposits x = filled();
        x.tick(3);
        x.saveSnapshot(1);
        String saved = Feed.stateBesidesUndo(x);
        for (int i = 0; i < 3; i++) {
            x.tick(1);
            x.remove(0);
            Check.due("words", x.restoreSnapshot(1), 2);
            Check.dueText("all is as it was", Feed.stateBesidesUndo(x), saved);
        }
        Check.due("twice in a row", x.restoreSnapshot(1), 2);
        Check.dueText("all is as it was", Feed.stateBesidesUndo(x), saved);
    }

    /** The undo history is cleared; a refused call leaves it. */
    private static void promise33HistoryIsCleared() {
        PieceDeposits x = filled();
        x.saveSnapshot(0);
        for (int i = 0; i < 10; i++) {
            x.tick(1);
        }
        Check.badState("slot 1", () -> x.restoreSnapshot(1));
        Check.outOfBounds("slot 2", () -> x.restoreSnapshot(2));
        Check.due("changes", x.size(11), 10);
        x.restoreSnapshot(0);
        Check.due("no changes", x.size(11), 0);
        Check.due("no undo", x.undo(), NONE);
        Check.due("the time", x.size(3), 0);
        x.tick(1);
        x.tick(1);
        Check.due("later ones can be undone", x.undo(), 1);
    }

    /** Returns the number of words then. */
    private static void promise33NumberOfWords() {
        PieceDeposits x = Feed.book("book 1 1 1 0 0;user u 99;piece a;");
        x.saveSnapshot(0);
        for (int word = 0; word < 16; word++) {
            Feed.put(x, "a").store(0);
        }
        x.saveSnapshot(1);
        Check.due("no words", x.restoreSnapshot(0), 0);
        Check.due("no words", x.size(2), 0);
        Check.due("16 words", x.restoreSnapshot(1), 16);
        Check.due("16 words", x.size(2), 16);
        x.remove(0);
        x.saveSnapshot(0);
        Check.due("15 words", x.restoreSnapshot(0), 15);
    }

    /** Undo, changes and parse errors leave what is stored. */
    private static void promise33LaterChangesLeaveIt() {
        PieceDeposits x = filled();
        Feed.put(x, "uv").bring(1);
        x.saveSnapshot(0);
        String saved = Feed.stateBesidesUndo(x);
        x.undo();
        x.remove(1);
        Feed.put(x, "zzzzzz").bring(0);
        x.undo();
        Check.due("words", x.restoreSnapshot(0), 2);
        Check.dueText("all is as it was", Feed.stateBesidesUndo(x), saved);
    }

    /** Two snapshot slots, 0 and 1. */
    private static void promise33EmptySlots() {
        PieceDeposits x = filled();
        int[] none = {Integer.MIN_VALUE, -1, 2, 3, Integer.MAX_VALUE};
        for (int slot : none) {
            Check.outOfBounds("save " + slot, () -> x.saveSnapshot(slot) ? 1 : 0);
            Check.outOfBounds("restore " + slot, () -> x.restoreSnapshot(slot));
        }
        Check.badState("restore 0", () -> x.restoreSnapshot(0));
        Check.badState("restore 1", () -> x.restoreSnapshot(1));
        Check.due("save 1", x.saveSnapshot(1), false);
        Check.badState("restore 0", () -> x.restoreSnapshot(0));
        Check.due("restore 1", x.restoreSnapshot(1), 2);
    }
}
