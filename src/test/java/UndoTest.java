/** Promises 31 to 33: undo and snapshots. */
final class UndoTest {
    private static final int NONE = PieceDeposits.NONE;
    private static final int MOST = Integer.MAX_VALUE;
    private static final String BOOK = "book 7 3 2 0 33;user a 400;user b 300;piece a;piece b;"
            + "word a abc;";

    private UndoTest() {
    }

    static void run() {
        promise31EachChange();
        promise31IdleTimes();
        promise31TenChanges();
        promise31WhatIsNoChange();
        promise32SaveSnapshot();
        promise33RestoreSnapshot();
        promise33WrongSlots();
    }

    private static PieceDeposits filled() {
        return Feed.book(BOOK);
    }

    /** Each kind of change, in a row in which each of them alters something. */
    private static final Refusal.Use[] CHANGES = {
        x -> x.tick(2),
        x -> Feed.put(x, "uv").bring(1),
        x -> Feed.put(x, "abcabc").store(1),
        x -> Feed.put(x, "ab").bring(0),
        x -> x.recut(0),
        x -> x.recutAll(),
        x -> x.remove(1),
        x -> x.pay(0, 1, 9),
        x -> x.tick(3)};

    private static void promise31EachChange() {
        for (int last = 0; last < CHANGES.length; last++) {
            PieceDeposits x = Feed.book("book 7 3 2 0 33;user a 400;user b 300;piece a;piece b;"
                    + "word a ab;word a ab;");
            for (int i = 0; i < last; i++) {
                CHANGES[i].of(x);
            }
            String before = Feed.stateBesidesUndo(x);
            CHANGES[last].of(x);
            String after = Feed.stateBesidesUndo(x);
            Check.due("change " + last + " alters nothing", before.equals(after), false);
            Check.due("changes that can still be undone", x.undo(), last);
            Check.dueText("state before change " + last, Feed.stateBesidesUndo(x), before);
        }
    }

    private static void promise31IdleTimes() {
        PieceDeposits x = Feed.book("book 7 3 2 20 33;user a 400;piece a;");
        x.tick(2);
        Feed.put(x, "uv").bring(0);
        Feed.put(x, "uv").store(0);
        x.tick(3);
        x.remove(0);
        Check.due("idle since 5", x.piece(1, 4), 5);
        x.undo();
        Check.due("used", x.piece(1, 4), NONE);
        x.undo();
        x.undo();
        Check.due("idle since 2", x.piece(1, 4), 2);
    }

    private static void promise31TenChanges() {
        PieceDeposits x = filled();
        for (int i = 1; i <= 12; i++) {
            x.tick(1);
            Check.due("can be undone", x.size(11), Math.min(i, 10));
        }
        for (int i = 9; i >= 0; i--) {
            Check.due("undo", x.undo(), i);
            Check.due("the time", x.size(3), 2 + i);
        }
        Check.due("the oldest are gone", x.undo(), NONE);
        Check.due("the time", x.size(3), 2);
        for (int i = 1; i <= 23; i++) {
            x.tick(i);
        }
        x.undo();
        x.undo();
        x.pay(0, 1, 1);
        Check.due("changes", x.size(11), 9);
        Check.due("the time", x.size(3), 2 + 21 * 22 / 2);
        for (int i = 8; i >= 0; i--) {
            Check.due("undo", x.undo(), i);
        }
        Check.due("the time", x.size(3), 2 + 13 * 14 / 2);
    }

    private static void promise31WhatIsNoChange() {
        PieceDeposits x = filled();
        x.pay(0, 0, 0);
        x.recutAll();
        x.recut(0);
        Check.due("changes that alter nothing", x.size(11), 3);
        Feed.put(x, "zzzzzz").find(0);
        Feed.put(x, "zzzzzz").quote(0);
        Feed.parse(x, "book");
        x.saveSnapshot(0);
        Check.badState("pay", () -> x.pay(0, 1, 9000));
        Check.badArgument("tick", () -> x.tick(0));
        Check.outOfBounds("remove", () -> x.remove(9));
        Check.badArgument("store", () -> x.store(0));
        Check.badArgument("bring", () -> x.bring(0));
        Check.due("no changes", x.size(11), 3);
        Check.due("undo", x.undo(), 2);
        Check.due("the position of the error stays", x.errorPosition(), 4);
    }

    private static void promise32SaveSnapshot() {
        PieceDeposits x = filled();
        Check.due("none in slot 0", x.saveSnapshot(0), false);
        Check.due("none in slot 1", x.saveSnapshot(1), false);
        Check.due("one in slot 0", x.saveSnapshot(0), true);
        Check.due("no change", x.size(11), 0);
        x.tick(4);
        Check.due("in place of the earlier one", x.saveSnapshot(1), true);
        Check.due("history stays", x.size(11), 1);
        x.undo();
        Check.due("undo leaves the slots", x.saveSnapshot(0), true);
        x.restoreSnapshot(1);
        Check.due("the later one", x.size(3), 4);
        x.restoreSnapshot(0);
        Check.due("the other slot", x.size(3), 0);
    }

    private static void promise33RestoreSnapshot() {
        PieceDeposits x = filled();
        Feed.put(x, "xyz").store(1);
        Feed.put(x, "uvw").bring(0);
        x.tick(1);
        Feed.put(x, "tt").bring(0);
        x.saveSnapshot(1);
        String saved = Feed.stateBesidesUndo(x);
        x.remove(0);
        x.remove(0);
        x.tick(2);
        x.pay(1, 0, 7);
        Feed.put(x, "q").store(0);
        Check.due("words then", x.restoreSnapshot(1), 2);
        Check.dueText("all is as it was", Feed.stateBesidesUndo(x), saved);
        Check.due("no undo", x.size(11), 0);
        Check.due("no undo", x.undo(), NONE);
        x.remove(0);
        x.remove(0);
        Check.due("it stays stored", x.restoreSnapshot(1), 2);
        Check.dueText("all is as it was", Feed.stateBesidesUndo(x), saved);
        x.tick(2);
        Check.due("later changes can be undone", x.undo(), 0);
        Check.dueText("all is as it was", Feed.stateBesidesUndo(x), saved);
        PieceDeposits y = new PieceDeposits();
        y.saveSnapshot(0);
        Check.due("without words", y.restoreSnapshot(0), 0);
    }

    private static void promise33WrongSlots() {
        PieceDeposits x = filled();
        x.tick(1);
        Check.outOfBounds("saveSnapshot(2)", () -> x.saveSnapshot(2) ? 1 : 0);
        Check.outOfBounds("saveSnapshot(-1)", () -> x.saveSnapshot(-1) ? 1 : 0);
        Check.outOfBounds("saveSnapshot(most)", () -> x.saveSnapshot(MOST) ? 1 : 0);
        Check.outOfBounds("restoreSnapshot(2)", () -> x.restoreSnapshot(2));
        Check.outOfBounds("restoreSnapshot(-1)", () -> x.restoreSnapshot(-1));
        Check.badState("slot 0 is empty", () -> x.restoreSnapshot(0));
        x.saveSnapshot(1);
        Check.badState("slot 0 is empty", () -> x.restoreSnapshot(0));
        Check.due("history stays", x.size(11), 1);
    }
}
