/** Promises 15 to 17, and for each call whether it saves a state. */
final class UndoTest {
    private static final int LOW = Integer.MIN_VALUE;
    private static final int HIGH = Integer.MAX_VALUE;

    private UndoTest() {
    }

    public static void main(String[] args) {
        undoWithoutStates();
        atMostSixStates();
        undoRestoresEverything();
        undoableCallsSave();
        otherCallsDoNotSave();
        snapshots();
        snapshotsStayAsTheyAre();
        goBackIsUndoable();
        wrongSlots();
        Checks.end("UndoTest");
    }

    private static void undoWithoutStates() {
        GaugeBlocks g = new GaugeBlocks();
        Checks.dueState("undo at first", g, () -> g.undo());
        g.block(1000, 0);
        Checks.due("undo", g.undo(), 0);
        Checks.due("no blocks", g.count(0), 0);
        Checks.dueState("undo once more", g, () -> g.undo());
    }

    private static void atMostSixStates() {
        GaugeBlocks g = new GaugeBlocks();
        for (int i = 1; i <= 20; i++) {
            g.block(1000 + i, 0);
            Checks.due("saved after " + i, g.count(8), Math.min(i, 6));
        }
        for (int i = 5; i >= 0; i--) {
            Checks.due("undo", g.undo(), i);
            Checks.due("blocks", g.count(0), 14 + i);
        }
        Checks.dueState("undo once more", g, () -> g.undo());
        Checks.due("blocks", g.count(0), 14);
        g.block(5000, 0);
        g.rest(3);
        Checks.due("undo the rest", g.undo(), 1);
        Checks.due("minutes", g.count(2), 0);
        Checks.due("blocks", g.count(0), 15);
        Checks.due("undo the block", g.undo(), 0);
        Checks.due("blocks", g.count(0), 14);
    }

    /** A case in which no number of the state is as at first. */
    private static GaugeBlocks busy() {
        GaugeBlocks g = new GaugeBlocks();
        g.block(1000, 100);
        g.block(2000, -200);
        g.block(3000, 600);
        g.set(0, 11);
        g.set(1, 310);
        g.set(2, 5);
        g.set(3, 45);
        g.wring(0, 0);
        g.wring(0, 1);
        g.wring(0, 2);
        g.wring(1, 1);
        g.takeOff(0);
        g.hold(2, 7);
        g.rest(2);
        g.wring(2, 1);
        g.rest(1);
        return g;
    }

    private static void undoRestoresEverything() {
        GaugeBlocks g = busy();
        String before = Checks.stateOf(g);
        g.set(0, 1);
        g.set(1, 1000);
        g.set(2, 2);
        g.set(3, 3);
        g.takeOff(2);
        Checks.type(g, "b4000;h0,9;r7;u0;w1+1;w1+0;w1+1");
        Checks.due("up to the refusal", g.execute(), 6);
        for (int i = 0; i < 6; i++) {
            g.undo();
        }
        Checks.dueTrue("undo restored everything", Checks.stateOf(g).equals(before));
    }

    private static void undoableCallsSave() {
        GaugeBlocks g = new GaugeBlocks();
        g.block(1000, 0);
        dueSave("block", g, () -> g.block(2000, 0));
        dueSave("discard", g, () -> g.discard(1));
        dueSave("calibrate, though nothing changes", g, () -> g.calibrate(0));
        dueSave("hold", g, () -> g.hold(0, 1));
        dueSave("rest", g, () -> g.rest(1));
        dueSave("set to the same value", g, () -> g.set(0, 10));
        dueSave("wring", g, () -> g.wring(0, 0));
        dueSave("a refused wring", g, () -> g.wring(0, 0));
        dueSave("takeOff", g, () -> g.takeOff(0));
        dueSave("make without blocks", g, () -> g.make(0, 700));
        dueSave("make", g, () -> g.make(0, 1000));
        g.keep(1);
        dueSave("goBack", g, () -> g.goBack(1));
        Checks.type(g, "u1");
        dueSave("execute of nothing", g, () -> g.execute());
        Checks.type(g, "u0;b500");
        dueSave("execute", g, () -> g.execute());
    }

    /** With six states saved, only what undo then restores tells whether one more was saved. */
    private static void dueSave(String name, GaugeBlocks g, Checks.Call call) {
        int buffer = g.count(9);
        Checks.dueUndo(name, g, call);
        if (buffer == 0) {
            call.run();
        }
    }

    private static void otherCallsDoNotSave() {
        GaugeBlocks g = busy();
        g.undo();
        Checks.due("saved", g.count(8), 5);
        String before = Checks.picture(g);
        g.keep(0);
        g.refusal(0, 1);
        g.fewest(3000, 0);
        g.oldWay(3000, 1);
        g.nearest(3000);
        g.coolIn(0);
        g.lengthIn(0, 60);
        g.ranked(1, 0);
        g.lengths(0);
        g.append('b');
        g.firstError();
        g.clearBuffer();
        Checks.dueTrue("nothing changed", Checks.picture(g).equals(before));
        Checks.due("saved", g.count(8), 5);
    }

    private static void snapshots() {
        GaugeBlocks g = busy();
        String before = Checks.stateOf(g);
        Checks.due("keep", g.keep(0), 3);
        g.discard(2);
        Checks.due("keep another", g.keep(1), 2);
        String later = Checks.stateOf(g);
        g.set(0, 60);
        g.takeOff(0);
        g.discard(0);
        g.rest(60);
        Checks.due("back to the first", g.goBack(0), 3);
        Checks.dueTrue("the first is restored", Checks.stateOf(g).equals(before));
        Checks.due("back to the second", g.goBack(1), 2);
        Checks.dueTrue("the second is restored", Checks.stateOf(g).equals(later));
        Checks.due("a snapshot replaces the one before", g.keep(0), 2);
        g.rest(1);
        Checks.due("back to the new one", g.goBack(0), 2);
        Checks.dueTrue("the new one is restored", Checks.stateOf(g).equals(later));
        GaugeBlocks empty = new GaugeBlocks();
        Checks.due("keep without blocks", empty.keep(1), 0);
        empty.block(500, 0);
        Checks.due("back to no blocks", empty.goBack(1), 0);
    }

    private static void snapshotsStayAsTheyAre() {
        GaugeBlocks g = Checks.with(1000, 2000);
        g.keep(0);
        g.hold(0, 60);
        g.undo();
        g.undo();
        Checks.due("a block is gone", g.count(0), 1);
        Checks.type(g, "xyz");
        Checks.due("back", g.goBack(0), 2);
        Checks.due("the buffer stays", g.count(9), 3);
        Checks.due("the warmth is as it was", g.blockOf(0, 3), 0);
        g.hold(0, 60);
        Checks.due("back again", g.goBack(0), 2);
        Checks.due("the snapshot stays as it was", g.blockOf(0, 3), 0);
    }

    private static void goBackIsUndoable() {
        GaugeBlocks g = Checks.with(1000);
        g.keep(1);
        g.block(2000, 0);
        g.rest(5);
        Checks.due("saved", g.count(8), 3);
        Checks.due("back", g.goBack(1), 1);
        Checks.due("minutes", g.count(2), 0);
        Checks.due("saved states are no part of the state", g.count(8), 4);
        Checks.due("undo", g.undo(), 3);
        Checks.due("blocks", g.count(0), 2);
        Checks.due("minutes", g.count(2), 5);
        g.undo();
        g.undo();
        g.undo();
        Checks.due("snapshots are no part of the state", g.goBack(1), 1);
    }

    private static void wrongSlots() {
        GaugeBlocks g = Checks.with(1000);
        g.keep(0);
        for (int slot : new int[] {-1, 2, LOW, HIGH}) {
            Checks.dueIllegal("keep(" + slot + ")", g, () -> g.keep(slot));
            Checks.dueIllegal("goBack(" + slot + ")", g, () -> g.goBack(slot));
        }
        Checks.dueState("goBack(1)", g, () -> g.goBack(1));
        Checks.due("goBack(0)", g.goBack(0), 1);
    }
}
